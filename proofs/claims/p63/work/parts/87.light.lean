/-! the law's look at a light -/
section
variable {o K : Nat} {S : zBt} {h : zH}
theorem w_isLight {i : Nat} (hi : i < S.1.2.2.2.1.1) (hd : hDis S.1) (R : zRB o S h) (hO : zOk K S.1) (hK : K < 1700000) : zMet yL_isLight cL_isLight 12 (some .boolean) 13 896 5376 [.ref o, .int (iI (i : Int))] h (fun v h' => v = some (.int (iI 1)) ∧ zRB o S h') (fun _ _ => False) := by
  refine zMet.go (by decide +kernel) (Nat.le_of_ble_eq_true rfl) ?_
  intro X F B hnl hR hn
  have hKK : K < 2000000 := by omega
  have hl6 := hO.2.2.2.1
  have hp := (hO.2.1 i).1
  have hbm : zBeam (S.1.2.1 i) S.1.2.2.2.2.1 < 8 := Nat.mod_lt _ (by decide)
  have k36 : ∀ n k : Nat, n + k = 64 → ∀ h1 : zH, zRB o S h1 → Z X (128 + 12 * k) (768 + 72 * k) 36 [(5, .int (iI (k : Int))), (3, .int (iI 1)), (2, .int (iI ((zcnt (f_rch S.1 (S.1.2.1 i)) k : Nat) : Int))), (4, .int (iI ((S.1.2.1 i).1 : Int))), (0, .ref o), (1, .int (iI (i : Int)))] [] h1 := by
    intro n
    induction n with
    | zero =>
      intro k hk h1 R1
      have hk64 : k = 64 := by omega
      subst hk64
      have r0 := R1.2.1
      obtain ⟨σ, τ, r1⟩ := R1.2.2.1
      have hc := zcnt_le (f_rch S.1 (S.1.2.1 i)) 64
      refine z_iload_n F dL_isLight_36 rfl rfl ?_
      refine zi_if_eq (tgt := 313) F dL_isLight_37 (by decide) (by first | omega | (dsimp only at *; omega)) (fun c37 => False.elim (by first | omega | (dsimp only at *; omega))) (fun c37 => ?_)
      refine z_iload F dL_isLight_40 rfl ?_
      refine zi_bipush F dL_isLight_42 (by decide) ?_
      refine zi_icmp_ge (tgt := 313) F dL_isLight_44 (by decide) (by first | omega | (dsimp only at *; omega)) (fun c44 => ?_) (fun c44 => False.elim (by first | omega | (dsimp only at *; omega)))
      refine z_iload_n F dL_isLight_313 rfl rfl ?_
      refine zi_if_eq (tgt := 348) F dL_isLight_314 (by decide) (by first | omega | (dsimp only at *; omega)) (fun c314 => False.elim (by first | omega | (dsimp only at *; omega))) (fun c314 => ?_)
      refine z_aload_n F dL_isLight_317 rfl rfl ?_
      refine z_iload_n F dL_isLight_318 rfl rfl ?_
      refine z_callV F B cal_yX10_reachedCells (n_reachedCells (i := i) hi r0 r1 hO hKK) dL_isLight_319 rfl rfl (Nat.le_of_ble_eq_true rfl) (by decide) (by omega) (by omega) ml_L_196 im_yX10_reachedCells se_yX10_reachedCells r0 (by decide) rfl rfl (fun v hX qX => ?_) (fun C h1 q => q.elim)
      obtain ⟨rfl, qX⟩ := qX
      rw [qX]
      clear qX hX
      rw [bc_cnt, iI_nI]
      refine z_iload_n F dL_isLight_322 rfl rfl ?_
      refine zi_icmp_ne (tgt := 348) F dL_isLight_323 (by decide) (by first | omega | (dsimp only at *; omega)) (fun c323 => False.elim (by first | omega | (dsimp only at *; omega))) (fun c323 => ?_)
      refine z_aload_n F dL_isLight_326 rfl rfl ?_
      refine z_iload_n F dL_isLight_327 rfl rfl ?_
      refine z_iload F dL_isLight_328 rfl ?_
      refine zi_bipush F dL_isLight_330 (by decide) ?_
      refine zi_irem F dL_isLight_332 (by omega) ?_
      refine z_iload F dL_isLight_333 rfl ?_
      refine zi_bipush F dL_isLight_335 (by decide) ?_
      refine zi_idiv F dL_isLight_337 (by omega) ?_
      refine z_callV F B cal_yX10_reaches (n_reaches (i := i) hi (by omega) r0 r1 hO hKK) dL_isLight_338 rfl rfl (Nat.le_of_ble_eq_true rfl) (by decide) (by omega) (by omega) ml_L_253 im_yX10_reaches se_yX10_reaches r0 (by decide) rfl rfl (fun v hX qX => ?_) (fun C h1 q => q.elim)
      obtain ⟨rfl, qX⟩ := qX
      rw [qX]
      clear qX hX
      rw [cell_rc, f_rch_own, show zBo true = 1 from rfl]
      refine zi_if_eq (tgt := 348) F dL_isLight_341 (by decide) (by first | omega | (dsimp only at *; omega)) (fun c341 => False.elim (by first | omega | (dsimp only at *; omega))) (fun c341 => ?_)
      refine zi_iconst F dL_isLight_344 ?_
      refine z_goto (tgt := 349) F dL_isLight_345 (by decide) ?_
      exact Z.widen (by omega) (by omega) (z_ireturn F rfl B dL_isLight_349 ⟨rfl, R1⟩)
    | succ n ih =>
      intro k hk h1 R1
      have hk64 : k < 64 := by omega
      obtain ⟨F1, F2, F3, F4, F5, F6, F7⟩ := lgt_facts hO hi hk64
      have hc := zcnt_le (f_rch S.1 (S.1.2.1 i)) k
      refine z_iload_n F dL_isLight_36 rfl rfl ?_
      refine zi_if_eq (tgt := 313) F dL_isLight_37 (by decide) (by first | omega | (dsimp only at *; omega)) (fun c37 => False.elim (by first | omega | (dsimp only at *; omega))) (fun c37 => ?_)
      refine z_iload F dL_isLight_40 rfl ?_
      refine zi_bipush F dL_isLight_42 (by decide) ?_
      refine zi_icmp_ge (tgt := 313) F dL_isLight_44 (by decide) (by first | omega | (dsimp only at *; omega)) (fun c44 => False.elim (by first | omega | (dsimp only at *; omega))) (fun c44 => ?_)
      refine z_iload F dL_isLight_47 rfl ?_
      refine zi_bipush F dL_isLight_49 (by decide) ?_
      refine zi_irem F dL_isLight_51 (by omega) ?_
      refine z_istore F dL_isLight_52 rfl (hnl _ rfl) ?_
      refine z_iload F dL_isLight_54 rfl ?_
      refine zi_bipush F dL_isLight_56 (by decide) ?_
      refine zi_idiv F dL_isLight_58 (by omega) ?_
      refine z_istore F dL_isLight_59 rfl (hnl _ rfl) ?_
      refine z_aload_n F dL_isLight_61 rfl rfl ?_
      refine z_iload_n F dL_isLight_62 rfl rfl ?_
      refine z_iload F dL_isLight_63 rfl ?_
      refine z_iload F dL_isLight_65 rfl ?_
      refine z_callSH F B calH_yL_sectorOf (w_sectorOf (z := (i : Int)) ⟨by omega, by omega⟩ ⟨by omega, by omega⟩ ⟨by omega, by omega⟩ R1 hO hK) dL_isLight_67 rfl rfl (Nat.le_of_ble_eq_true rfl) (by decide) (by omega) (by omega) ml_L_251 st_yL_sectorOf (fun v hX qX => ?_) (fun C h1 q => q.elim)
      obtain ⟨rfl, R2⟩ := qX
      refine z_istore F dL_isLight_70 rfl (hnl _ rfl) ?_
      refine z_aload_n F dL_isLight_72 rfl rfl ?_
      refine z_iload_n F dL_isLight_73 rfl rfl ?_
      refine zi_iconst F dL_isLight_74 ?_
      refine z_iload F dL_isLight_75 rfl ?_
      refine zi_bipush F dL_isLight_77 (by decide) ?_
      refine zi_irem F dL_isLight_79 (by omega) ?_
      refine zi_imul F dL_isLight_80 ?_
      refine z_iload F dL_isLight_81 rfl ?_
      refine zi_isub F dL_isLight_83 ?_
      refine zi_iconst F dL_isLight_84 ?_
      refine z_iload F dL_isLight_85 rfl ?_
      refine zi_bipush F dL_isLight_87 (by decide) ?_
      refine zi_idiv F dL_isLight_89 (by omega) ?_
      refine zi_imul F dL_isLight_90 ?_
      refine z_iload F dL_isLight_91 rfl ?_
      refine zi_isub F dL_isLight_93 ?_
      refine z_callSH F B calH_yL_sectorOf (w_sectorOf (z := (i : Int)) ⟨by omega, by omega⟩ ⟨by omega, by omega⟩ ⟨by omega, by omega⟩ R2 hO hK) dL_isLight_94 rfl rfl (Nat.le_of_ble_eq_true rfl) (by decide) (by omega) (by omega) ml_L_251 st_yL_sectorOf (fun v hX qX => ?_) (fun C h1 q => q.elim)
      obtain ⟨rfl, R3⟩ := qX
      have r0 := R3.2.1
      obtain ⟨σ, τ, r1⟩ := R3.2.2.1
      refine z_istore F dL_isLight_97 rfl (hnl _ rfl) ?_
      refine z_aload_n F dL_isLight_99 rfl rfl ?_
      refine z_iload_n F dL_isLight_100 rfl rfl ?_
      refine z_iload F dL_isLight_101 rfl ?_
      refine z_iload F dL_isLight_103 rfl ?_
      refine z_callV F B cal_yX10_reaches (n_reaches (i := i) hi (by omega) r0 r1 hO hKK) dL_isLight_105 rfl rfl (Nat.le_of_ble_eq_true rfl) (by decide) (by omega) (by omega) ml_L_253 im_yX10_reaches se_yX10_reaches r0 (by decide) rfl rfl (fun v hX qX => ?_) (fun C h1 q => q.elim)
      obtain ⟨rfl, qX⟩ := qX
      rw [qX]
      clear qX hX
      rw [cell_rc]
      refine z_istore F dL_isLight_108 rfl (hnl _ rfl) ?_
      refine z_aload_n F dL_isLight_110 rfl rfl ?_
      refine z_iload_n F dL_isLight_111 rfl rfl ?_
      refine z_iload F dL_isLight_112 rfl ?_
      refine z_iload F dL_isLight_114 rfl ?_
      refine z_callSH F B calH_yL_minutesUntilSwept (w_minutesUntilSwept (z := (i : Int)) ⟨by omega, by omega⟩ ⟨by omega, by omega⟩ ⟨by omega, by omega⟩ R3 hO hK) dL_isLight_116 rfl rfl (Nat.le_of_ble_eq_true rfl) (by decide) (by omega) (by omega) ml_L_257 st_yL_minutesUntilSwept (fun v hX qX => ?_) (fun C h1 q => q.elim)
      clear r0 r1
      obtain ⟨rfl, R4⟩ := qX
      generalize g_sec S.1 (i : Int) ((k : Int) % 8) ((k : Int) / 8) = s at F1 F2 F7 ⊢
      generalize g_sec S.1 (i : Int) (2 * (((S.1.2.1 i).1 : Int) % 8) - (k : Int) % 8) (2 * (((S.1.2.1 i).1 : Int) / 8) - (k : Int) / 8) = a at F2 ⊢
      have hm2 : g_mut2 S.1 (i : Int) ((k : Int) % 8) ((k : Int) / 8) = g_mut S.1 (i : Int) ((k : Int) % 8) ((k : Int) / 8) := F5
      generalize g_mut S.1 (i : Int) ((k : Int) % 8) ((k : Int) / 8) = m at F3 F4 F6 F7 hm2 ⊢
      clear F5
      have r0 := R4.2.1
      obtain ⟨σ, τ, r1⟩ := R4.2.2.1
      have rch0 := f_rch_own S.1 (S.1.2.1 i)
      have hstep : ∀ bb : Bool, f_rch S.1 (S.1.2.1 i) k = bb → zcnt (f_rch S.1 (S.1.2.1 i)) (k + 1) = zcnt (f_rch S.1 (S.1.2.1 i)) k + (if bb then 1 else 0) := fun bb e => by rw [← e]; rfl
      by_cases ekp : k = (S.1.2.1 i).1
      · have hr : f_rch S.1 (S.1.2.1 i) k = true := by rw [ekp]; exact rch0
        have f1 := F1 ekp
        have f3 := F3 hr
        have hw : f_swp S.1 (S.1.2.1 i) k = true := by unfold f_swp; rw [if_pos ekp]
        have f6 := F6.mp hw
        refine z_istore F dL_isLight_119 rfl (hnl _ rfl) ?_
        refine z_iload_n F dL_isLight_121 rfl rfl ?_
        rw [hr, show zBo true = 1 from rfl]
        refine z_iload F dL_isLight_122 rfl ?_
        refine zi_if_eq (tgt := 131) F dL_isLight_124 (by decide) (by first | omega | (dsimp only at *; omega)) (fun c124 => False.elim (by first | omega | (dsimp only at *; omega))) (fun c124 => ?_)
        refine zi_iconst F dL_isLight_127 ?_
        refine z_goto (tgt := 132) F dL_isLight_128 (by decide) ?_
        refine zi_iadd F dL_isLight_132 ?_
        refine z_istore_n F dL_isLight_133 rfl rfl (hnl _ rfl) ?_
        refine z_iload F dL_isLight_134 rfl ?_
        refine zi_sipush F dL_isLight_136 (by decide) ?_
        refine zi_icmp_ne (tgt := 146) F dL_isLight_139 (by decide) (by first | omega | (dsimp only at *; omega)) (fun c139 => False.elim (by first | omega | (dsimp only at *; omega))) (fun c139 => ?_)
        refine zi_iconst F dL_isLight_142 ?_
        refine z_goto (tgt := 147) F dL_isLight_143 (by decide) ?_
        refine z_iload F dL_isLight_147 rfl ?_
        refine z_iload F dL_isLight_149 rfl ?_
        refine zi_icmp_ne (tgt := 158) F dL_isLight_151 (by decide) (by first | omega | (dsimp only at *; omega)) (fun c151 => False.elim (by first | omega | (dsimp only at *; omega))) (fun c151 => ?_)
        refine zi_iconst F dL_isLight_154 ?_
        refine z_goto (tgt := 159) F dL_isLight_155 (by decide) ?_
        refine zi_icmp_ne (tgt := 233) F dL_isLight_159 (by decide) (by first | omega | (dsimp only at *; omega)) (fun c159 => False.elim (by first | omega | (dsimp only at *; omega))) (fun c159 => ?_)
        refine z_iload F dL_isLight_162 rfl ?_
        refine zi_sipush F dL_isLight_164 (by decide) ?_
        refine zi_icmp_eq (tgt := 190) F dL_isLight_167 (by decide) (by first | omega | (dsimp only at *; omega)) (fun c167 => ?_) (fun c167 => False.elim (by first | omega | (dsimp only at *; omega)))
        refine z_iload F dL_isLight_190 rfl ?_
        refine zi_sipush F dL_isLight_192 (by decide) ?_
        refine zi_icmp_eq (tgt := 202) F dL_isLight_195 (by decide) (by first | omega | (dsimp only at *; omega)) (fun c195 => False.elim (by first | omega | (dsimp only at *; omega))) (fun c195 => ?_)
        refine zi_iconst F dL_isLight_198 ?_
        refine z_goto (tgt := 203) F dL_isLight_199 (by decide) ?_
        refine z_iload F dL_isLight_203 rfl ?_
        refine zi_icmp_ne (tgt := 233) F dL_isLight_205 (by decide) (by first | omega | (dsimp only at *; omega)) (fun c205 => False.elim (by first | omega | (dsimp only at *; omega))) (fun c205 => ?_)
        refine z_iload F dL_isLight_208 rfl ?_
        refine zi_bipush F dL_isLight_210 (by decide) ?_
        refine zi_icmp_ge (tgt := 233) F dL_isLight_212 (by decide) (by first | omega | (dsimp only at *; omega)) (fun c212 => False.elim (by first | omega | (dsimp only at *; omega))) (fun c212 => ?_)
        refine z_aload_n F dL_isLight_215 rfl rfl ?_
        refine z_iload_n F dL_isLight_216 rfl rfl ?_
        refine z_iload F dL_isLight_217 rfl ?_
        refine z_iload F dL_isLight_219 rfl ?_
        refine z_callSH F B calH_yL_minutesUntilSweptByDivision (w_minutesUntilSweptByDivision (z := (i : Int)) ⟨by omega, by omega⟩ ⟨by omega, by omega⟩ ⟨by omega, by omega⟩ R4 hO hK) dL_isLight_221 rfl rfl (Nat.le_of_ble_eq_true rfl) (by decide) (by omega) (by omega) ml_L_259 st_yL_minutesUntilSweptByDivision (fun v hX qX => ?_) (fun C h1 q => q.elim)
        clear r0 r1
        obtain ⟨rfl, R5⟩ := qX
        rw [hm2]
        have r0 := R5.2.1
        obtain ⟨σ, τ, r1⟩ := R5.2.2.1
        refine z_iload F dL_isLight_224 rfl ?_
        refine zi_icmp_ne (tgt := 233) F dL_isLight_226 (by decide) (by first | omega | (dsimp only at *; omega)) (fun c226 => False.elim (by first | omega | (dsimp only at *; omega))) (fun c226 => ?_)
        refine zi_iconst F dL_isLight_229 ?_
        refine z_goto (tgt := 234) F dL_isLight_230 (by decide) ?_
        refine z_istore_n F dL_isLight_234 rfl rfl (hnl _ rfl) ?_
        refine z_iload_n F dL_isLight_235 rfl rfl ?_
        refine zi_if_eq (tgt := 305) F dL_isLight_236 (by decide) (by first | omega | (dsimp only at *; omega)) (fun c236 => False.elim (by first | omega | (dsimp only at *; omega))) (fun c236 => ?_)
        refine z_aload_n F dL_isLight_239 rfl rfl ?_
        refine z_iload_n F dL_isLight_240 rfl rfl ?_
        refine z_iload F dL_isLight_241 rfl ?_
        refine z_iload F dL_isLight_243 rfl ?_
        refine z_callV F B cal_yX10_sweeps (n_sweeps (i := i) hi (by omega) r0 r1 hO hKK) dL_isLight_245 rfl rfl (Nat.le_of_ble_eq_true rfl) (by decide) (by omega) (by omega) ml_L_261 im_yX10_sweeps se_yX10_sweeps r0 (by decide) rfl rfl (fun v hX qX => ?_) (fun C h1 q => q.elim)
        obtain ⟨rfl, qX⟩ := qX
        rw [qX]
        clear qX hX
        rw [cell_rc, hw, show zBo true = 1 from rfl]
        refine z_iload F dL_isLight_248 rfl ?_
        refine zi_if_ne (tgt := 257) F dL_isLight_250 (by decide) (by first | omega | (dsimp only at *; omega)) (fun c250 => False.elim (by first | omega | (dsimp only at *; omega))) (fun c250 => ?_)
        refine zi_iconst F dL_isLight_253 ?_
        refine z_goto (tgt := 258) F dL_isLight_254 (by decide) ?_
        refine zi_icmp_ne (tgt := 305) F dL_isLight_258 (by decide) (by first | omega | (dsimp only at *; omega)) (fun c258 => False.elim (by first | omega | (dsimp only at *; omega))) (fun c258 => ?_)
        refine z_iload F dL_isLight_261 rfl ?_
        refine zi_if_eq (tgt := 301) F dL_isLight_263 (by decide) (by first | omega | (dsimp only at *; omega)) (fun c263 => False.elim (by first | omega | (dsimp only at *; omega))) (fun c263 => ?_)
        refine z_iload F dL_isLight_266 rfl ?_
        refine z_iload F dL_isLight_268 rfl ?_
        refine zi_icmp_eq (tgt := 301) F dL_isLight_270 (by decide) (by first | omega | (dsimp only at *; omega)) (fun c270 => ?_) (fun c270 => False.elim (by first | omega | (dsimp only at *; omega)))
        refine zi_iconst F dL_isLight_301 ?_
        refine z_goto (tgt := 306) F dL_isLight_302 (by decide) ?_
        refine z_istore_n F dL_isLight_306 rfl rfl (hnl _ rfl) ?_
        refine zi_iinc F dL_isLight_307 rfl rfl (hnl _ rfl) ?_
        refine z_goto (tgt := 36) F dL_isLight_310 (by decide) ?_
        exact Z.keys [5, 3, 2, 4, 0, 1] (by rw [hstep _ hr]; rfl) (Z.widen (by omega) (by omega) (ih (k + 1) (by omega) _ R5))
      · obtain ⟨f21, f22, f23⟩ := F2 ekp
        cases hr : f_rch S.1 (S.1.2.1 i) k with
        | true =>
          have f3 := F3 hr
          have f7 := F7 hr ekp
          cases hw : f_swp S.1 (S.1.2.1 i) k with
          | true =>
            have f6 := F6.mp hw
            have f8 := f7.mp f6
            rcases f23 with ha | ha
            · have ha2 := ha
              refine z_istore F dL_isLight_119 rfl (hnl _ rfl) ?_
              refine z_iload_n F dL_isLight_121 rfl rfl ?_
              rw [show zBo true = 1 from rfl]
              refine z_iload F dL_isLight_122 rfl ?_
              refine zi_if_eq (tgt := 131) F dL_isLight_124 (by decide) (by first | omega | (dsimp only at *; omega)) (fun c124 => False.elim (by first | omega | (dsimp only at *; omega))) (fun c124 => ?_)
              refine zi_iconst F dL_isLight_127 ?_
              refine z_goto (tgt := 132) F dL_isLight_128 (by decide) ?_
              refine zi_iadd F dL_isLight_132 ?_
              refine z_istore_n F dL_isLight_133 rfl rfl (hnl _ rfl) ?_
              refine z_iload F dL_isLight_134 rfl ?_
              refine zi_sipush F dL_isLight_136 (by decide) ?_
              refine zi_icmp_ne (tgt := 146) F dL_isLight_139 (by decide) (by first | omega | (dsimp only at *; omega)) (fun c139 => ?_) (fun c139 => False.elim (by first | omega | (dsimp only at *; omega)))
              refine zi_iconst F dL_isLight_146 ?_
              refine z_iload F dL_isLight_147 rfl ?_
              refine z_iload F dL_isLight_149 rfl ?_
              refine zi_icmp_ne (tgt := 158) F dL_isLight_151 (by decide) (by first | omega | (dsimp only at *; omega)) (fun c151 => ?_) (fun c151 => False.elim (by first | omega | (dsimp only at *; omega)))
              refine zi_iconst F dL_isLight_158 ?_
              refine zi_icmp_ne (tgt := 233) F dL_isLight_159 (by decide) (by first | omega | (dsimp only at *; omega)) (fun c159 => False.elim (by first | omega | (dsimp only at *; omega))) (fun c159 => ?_)
              refine z_iload F dL_isLight_162 rfl ?_
              refine zi_sipush F dL_isLight_164 (by decide) ?_
              refine zi_icmp_eq (tgt := 190) F dL_isLight_167 (by decide) (by first | omega | (dsimp only at *; omega)) (fun c167 => False.elim (by first | omega | (dsimp only at *; omega))) (fun c167 => ?_)
              refine z_iload F dL_isLight_170 rfl ?_
              refine zi_sipush F dL_isLight_172 (by decide) ?_
              refine zi_icmp_eq (tgt := 190) F dL_isLight_175 (by decide) (by first | omega | (dsimp only at *; omega)) (fun c175 => ?_) (fun c175 => False.elim (by first | omega | (dsimp only at *; omega)))
              refine z_iload F dL_isLight_190 rfl ?_
              refine zi_sipush F dL_isLight_192 (by decide) ?_
              refine zi_icmp_eq (tgt := 202) F dL_isLight_195 (by decide) (by first | omega | (dsimp only at *; omega)) (fun c195 => False.elim (by first | omega | (dsimp only at *; omega))) (fun c195 => ?_)
              refine zi_iconst F dL_isLight_198 ?_
              refine z_goto (tgt := 203) F dL_isLight_199 (by decide) ?_
              refine z_iload F dL_isLight_203 rfl ?_
              refine zi_icmp_ne (tgt := 233) F dL_isLight_205 (by decide) (by first | omega | (dsimp only at *; omega)) (fun c205 => False.elim (by first | omega | (dsimp only at *; omega))) (fun c205 => ?_)
              refine z_iload F dL_isLight_208 rfl ?_
              refine zi_bipush F dL_isLight_210 (by decide) ?_
              refine zi_icmp_ge (tgt := 233) F dL_isLight_212 (by decide) (by first | omega | (dsimp only at *; omega)) (fun c212 => False.elim (by first | omega | (dsimp only at *; omega))) (fun c212 => ?_)
              refine z_aload_n F dL_isLight_215 rfl rfl ?_
              refine z_iload_n F dL_isLight_216 rfl rfl ?_
              refine z_iload F dL_isLight_217 rfl ?_
              refine z_iload F dL_isLight_219 rfl ?_
              refine z_callSH F B calH_yL_minutesUntilSweptByDivision (w_minutesUntilSweptByDivision (z := (i : Int)) ⟨by omega, by omega⟩ ⟨by omega, by omega⟩ ⟨by omega, by omega⟩ R4 hO hK) dL_isLight_221 rfl rfl (Nat.le_of_ble_eq_true rfl) (by decide) (by omega) (by omega) ml_L_259 st_yL_minutesUntilSweptByDivision (fun v hX qX => ?_) (fun C h1 q => q.elim)
              clear r0 r1
              obtain ⟨rfl, R5⟩ := qX
              rw [hm2]
              have r0 := R5.2.1
              obtain ⟨σ, τ, r1⟩ := R5.2.2.1
              refine z_iload F dL_isLight_224 rfl ?_
              refine zi_icmp_ne (tgt := 233) F dL_isLight_226 (by decide) (by first | omega | (dsimp only at *; omega)) (fun c226 => False.elim (by first | omega | (dsimp only at *; omega))) (fun c226 => ?_)
              refine zi_iconst F dL_isLight_229 ?_
              refine z_goto (tgt := 234) F dL_isLight_230 (by decide) ?_
              refine z_istore_n F dL_isLight_234 rfl rfl (hnl _ rfl) ?_
              refine z_iload_n F dL_isLight_235 rfl rfl ?_
              refine zi_if_eq (tgt := 305) F dL_isLight_236 (by decide) (by first | omega | (dsimp only at *; omega)) (fun c236 => False.elim (by first | omega | (dsimp only at *; omega))) (fun c236 => ?_)
              refine z_aload_n F dL_isLight_239 rfl rfl ?_
              refine z_iload_n F dL_isLight_240 rfl rfl ?_
              refine z_iload F dL_isLight_241 rfl ?_
              refine z_iload F dL_isLight_243 rfl ?_
              refine z_callV F B cal_yX10_sweeps (n_sweeps (i := i) hi (by omega) r0 r1 hO hKK) dL_isLight_245 rfl rfl (Nat.le_of_ble_eq_true rfl) (by decide) (by omega) (by omega) ml_L_261 im_yX10_sweeps se_yX10_sweeps r0 (by decide) rfl rfl (fun v hX qX => ?_) (fun C h1 q => q.elim)
              obtain ⟨rfl, qX⟩ := qX
              rw [qX]
              clear qX hX
              rw [cell_rc, hw, show zBo true = 1 from rfl]
              refine z_iload F dL_isLight_248 rfl ?_
              refine zi_if_ne (tgt := 257) F dL_isLight_250 (by decide) (by first | omega | (dsimp only at *; omega)) (fun c250 => False.elim (by first | omega | (dsimp only at *; omega))) (fun c250 => ?_)
              refine zi_iconst F dL_isLight_253 ?_
              refine z_goto (tgt := 258) F dL_isLight_254 (by decide) ?_
              refine zi_icmp_ne (tgt := 305) F dL_isLight_258 (by decide) (by first | omega | (dsimp only at *; omega)) (fun c258 => False.elim (by first | omega | (dsimp only at *; omega))) (fun c258 => ?_)
              refine z_iload F dL_isLight_261 rfl ?_
              refine zi_if_eq (tgt := 301) F dL_isLight_263 (by decide) (by first | omega | (dsimp only at *; omega)) (fun c263 => False.elim (by first | omega | (dsimp only at *; omega))) (fun c263 => ?_)
              refine z_iload F dL_isLight_266 rfl ?_
              refine z_iload F dL_isLight_268 rfl ?_
              refine zi_icmp_eq (tgt := 301) F dL_isLight_270 (by decide) (by first | omega | (dsimp only at *; omega)) (fun c270 => False.elim (by first | omega | (dsimp only at *; omega))) (fun c270 => ?_)
              refine z_iload F dL_isLight_273 rfl ?_
              refine zi_if_ne (tgt := 282) F dL_isLight_275 (by decide) (by first | omega | (dsimp only at *; omega)) (fun c275 => False.elim (by first | omega | (dsimp only at *; omega))) (fun c275 => ?_)
              refine zi_iconst F dL_isLight_278 ?_
              refine z_goto (tgt := 283) F dL_isLight_279 (by decide) ?_
              refine z_aload_n F dL_isLight_283 rfl rfl ?_
              refine z_iload_n F dL_isLight_284 rfl rfl ?_
              refine z_callV F B cal_yX10_beam (n_beam (i := i) hi r0 r1 hO hKK) dL_isLight_285 rfl rfl (Nat.le_of_ble_eq_true rfl) (by decide) (by omega) (by omega) ml_L_193 im_yX10_beam se_yX10_beam r0 (by decide) rfl rfl (fun v hX qX => ?_) (fun C h1 q => q.elim)
              obtain ⟨rfl, qX⟩ := qX
              rw [qX]
              clear qX hX
              refine z_iload F dL_isLight_288 rfl ?_
              refine zi_icmp_ne (tgt := 297) F dL_isLight_290 (by decide) (by first | omega | (dsimp only at *; omega)) (fun c290 => False.elim (by first | omega | (dsimp only at *; omega))) (fun c290 => ?_)
              refine zi_iconst F dL_isLight_293 ?_
              refine z_goto (tgt := 298) F dL_isLight_294 (by decide) ?_
              refine zi_icmp_ne (tgt := 305) F dL_isLight_298 (by decide) (by first | omega | (dsimp only at *; omega)) (fun c298 => False.elim (by first | omega | (dsimp only at *; omega))) (fun c298 => ?_)
              refine zi_iconst F dL_isLight_301 ?_
              refine z_goto (tgt := 306) F dL_isLight_302 (by decide) ?_
              refine z_istore_n F dL_isLight_306 rfl rfl (hnl _ rfl) ?_
              refine zi_iinc F dL_isLight_307 rfl rfl (hnl _ rfl) ?_
              refine z_goto (tgt := 36) F dL_isLight_310 (by decide) ?_
              exact Z.keys [5, 3, 2, 4, 0, 1] (by rw [hstep _ hr]; rfl) (Z.widen (by omega) (by omega) (ih (k + 1) (by omega) _ R5))
            · have ha2 : ¬ a = -1000 := by omega
              refine z_istore F dL_isLight_119 rfl (hnl _ rfl) ?_
              refine z_iload_n F dL_isLight_121 rfl rfl ?_
              rw [show zBo true = 1 from rfl]
              refine z_iload F dL_isLight_122 rfl ?_
              refine zi_if_eq (tgt := 131) F dL_isLight_124 (by decide) (by first | omega | (dsimp only at *; omega)) (fun c124 => False.elim (by first | omega | (dsimp only at *; omega))) (fun c124 => ?_)
              refine zi_iconst F dL_isLight_127 ?_
              refine z_goto (tgt := 132) F dL_isLight_128 (by decide) ?_
              refine zi_iadd F dL_isLight_132 ?_
              refine z_istore_n F dL_isLight_133 rfl rfl (hnl _ rfl) ?_
              refine z_iload F dL_isLight_134 rfl ?_
              refine zi_sipush F dL_isLight_136 (by decide) ?_
              refine zi_icmp_ne (tgt := 146) F dL_isLight_139 (by decide) (by first | omega | (dsimp only at *; omega)) (fun c139 => ?_) (fun c139 => False.elim (by first | omega | (dsimp only at *; omega)))
              refine zi_iconst F dL_isLight_146 ?_
              refine z_iload F dL_isLight_147 rfl ?_
              refine z_iload F dL_isLight_149 rfl ?_
              refine zi_icmp_ne (tgt := 158) F dL_isLight_151 (by decide) (by first | omega | (dsimp only at *; omega)) (fun c151 => ?_) (fun c151 => False.elim (by first | omega | (dsimp only at *; omega)))
              refine zi_iconst F dL_isLight_158 ?_
              refine zi_icmp_ne (tgt := 233) F dL_isLight_159 (by decide) (by first | omega | (dsimp only at *; omega)) (fun c159 => False.elim (by first | omega | (dsimp only at *; omega))) (fun c159 => ?_)
              refine z_iload F dL_isLight_162 rfl ?_
              refine zi_sipush F dL_isLight_164 (by decide) ?_
              refine zi_icmp_eq (tgt := 190) F dL_isLight_167 (by decide) (by first | omega | (dsimp only at *; omega)) (fun c167 => False.elim (by first | omega | (dsimp only at *; omega))) (fun c167 => ?_)
              refine z_iload F dL_isLight_170 rfl ?_
              refine zi_sipush F dL_isLight_172 (by decide) ?_
              refine zi_icmp_eq (tgt := 190) F dL_isLight_175 (by decide) (by first | omega | (dsimp only at *; omega)) (fun c175 => False.elim (by first | omega | (dsimp only at *; omega))) (fun c175 => ?_)
              refine z_iload F dL_isLight_178 rfl ?_
              refine z_iload F dL_isLight_180 rfl ?_
              refine zi_iconst F dL_isLight_182 ?_
              refine zi_iadd F dL_isLight_183 ?_
              refine zi_bipush F dL_isLight_184 (by decide) ?_
              refine zi_irem F dL_isLight_186 (by omega) ?_
              refine zi_icmp_ne (tgt := 233) F dL_isLight_187 (by decide) (by first | omega | (dsimp only at *; omega)) (fun c187 => False.elim (by first | omega | (dsimp only at *; omega))) (fun c187 => ?_)
              refine z_iload F dL_isLight_190 rfl ?_
              refine zi_sipush F dL_isLight_192 (by decide) ?_
              refine zi_icmp_eq (tgt := 202) F dL_isLight_195 (by decide) (by first | omega | (dsimp only at *; omega)) (fun c195 => False.elim (by first | omega | (dsimp only at *; omega))) (fun c195 => ?_)
              refine zi_iconst F dL_isLight_198 ?_
              refine z_goto (tgt := 203) F dL_isLight_199 (by decide) ?_
              refine z_iload F dL_isLight_203 rfl ?_
              refine zi_icmp_ne (tgt := 233) F dL_isLight_205 (by decide) (by first | omega | (dsimp only at *; omega)) (fun c205 => False.elim (by first | omega | (dsimp only at *; omega))) (fun c205 => ?_)
              refine z_iload F dL_isLight_208 rfl ?_
              refine zi_bipush F dL_isLight_210 (by decide) ?_
              refine zi_icmp_ge (tgt := 233) F dL_isLight_212 (by decide) (by first | omega | (dsimp only at *; omega)) (fun c212 => False.elim (by first | omega | (dsimp only at *; omega))) (fun c212 => ?_)
              refine z_aload_n F dL_isLight_215 rfl rfl ?_
              refine z_iload_n F dL_isLight_216 rfl rfl ?_
              refine z_iload F dL_isLight_217 rfl ?_
              refine z_iload F dL_isLight_219 rfl ?_
              refine z_callSH F B calH_yL_minutesUntilSweptByDivision (w_minutesUntilSweptByDivision (z := (i : Int)) ⟨by omega, by omega⟩ ⟨by omega, by omega⟩ ⟨by omega, by omega⟩ R4 hO hK) dL_isLight_221 rfl rfl (Nat.le_of_ble_eq_true rfl) (by decide) (by omega) (by omega) ml_L_259 st_yL_minutesUntilSweptByDivision (fun v hX qX => ?_) (fun C h1 q => q.elim)
              clear r0 r1
              obtain ⟨rfl, R5⟩ := qX
              rw [hm2]
              have r0 := R5.2.1
              obtain ⟨σ, τ, r1⟩ := R5.2.2.1
              refine z_iload F dL_isLight_224 rfl ?_
              refine zi_icmp_ne (tgt := 233) F dL_isLight_226 (by decide) (by first | omega | (dsimp only at *; omega)) (fun c226 => False.elim (by first | omega | (dsimp only at *; omega))) (fun c226 => ?_)
              refine zi_iconst F dL_isLight_229 ?_
              refine z_goto (tgt := 234) F dL_isLight_230 (by decide) ?_
              refine z_istore_n F dL_isLight_234 rfl rfl (hnl _ rfl) ?_
              refine z_iload_n F dL_isLight_235 rfl rfl ?_
              refine zi_if_eq (tgt := 305) F dL_isLight_236 (by decide) (by first | omega | (dsimp only at *; omega)) (fun c236 => False.elim (by first | omega | (dsimp only at *; omega))) (fun c236 => ?_)
              refine z_aload_n F dL_isLight_239 rfl rfl ?_
              refine z_iload_n F dL_isLight_240 rfl rfl ?_
              refine z_iload F dL_isLight_241 rfl ?_
              refine z_iload F dL_isLight_243 rfl ?_
              refine z_callV F B cal_yX10_sweeps (n_sweeps (i := i) hi (by omega) r0 r1 hO hKK) dL_isLight_245 rfl rfl (Nat.le_of_ble_eq_true rfl) (by decide) (by omega) (by omega) ml_L_261 im_yX10_sweeps se_yX10_sweeps r0 (by decide) rfl rfl (fun v hX qX => ?_) (fun C h1 q => q.elim)
              obtain ⟨rfl, qX⟩ := qX
              rw [qX]
              clear qX hX
              rw [cell_rc, hw, show zBo true = 1 from rfl]
              refine z_iload F dL_isLight_248 rfl ?_
              refine zi_if_ne (tgt := 257) F dL_isLight_250 (by decide) (by first | omega | (dsimp only at *; omega)) (fun c250 => False.elim (by first | omega | (dsimp only at *; omega))) (fun c250 => ?_)
              refine zi_iconst F dL_isLight_253 ?_
              refine z_goto (tgt := 258) F dL_isLight_254 (by decide) ?_
              refine zi_icmp_ne (tgt := 305) F dL_isLight_258 (by decide) (by first | omega | (dsimp only at *; omega)) (fun c258 => False.elim (by first | omega | (dsimp only at *; omega))) (fun c258 => ?_)
              refine z_iload F dL_isLight_261 rfl ?_
              refine zi_if_eq (tgt := 301) F dL_isLight_263 (by decide) (by first | omega | (dsimp only at *; omega)) (fun c263 => False.elim (by first | omega | (dsimp only at *; omega))) (fun c263 => ?_)
              refine z_iload F dL_isLight_266 rfl ?_
              refine z_iload F dL_isLight_268 rfl ?_
              refine zi_icmp_eq (tgt := 301) F dL_isLight_270 (by decide) (by first | omega | (dsimp only at *; omega)) (fun c270 => False.elim (by first | omega | (dsimp only at *; omega))) (fun c270 => ?_)
              refine z_iload F dL_isLight_273 rfl ?_
              refine zi_if_ne (tgt := 282) F dL_isLight_275 (by decide) (by first | omega | (dsimp only at *; omega)) (fun c275 => False.elim (by first | omega | (dsimp only at *; omega))) (fun c275 => ?_)
              refine zi_iconst F dL_isLight_278 ?_
              refine z_goto (tgt := 283) F dL_isLight_279 (by decide) ?_
              refine z_aload_n F dL_isLight_283 rfl rfl ?_
              refine z_iload_n F dL_isLight_284 rfl rfl ?_
              refine z_callV F B cal_yX10_beam (n_beam (i := i) hi r0 r1 hO hKK) dL_isLight_285 rfl rfl (Nat.le_of_ble_eq_true rfl) (by decide) (by omega) (by omega) ml_L_193 im_yX10_beam se_yX10_beam r0 (by decide) rfl rfl (fun v hX qX => ?_) (fun C h1 q => q.elim)
              obtain ⟨rfl, qX⟩ := qX
              rw [qX]
              clear qX hX
              refine z_iload F dL_isLight_288 rfl ?_
              refine zi_icmp_ne (tgt := 297) F dL_isLight_290 (by decide) (by first | omega | (dsimp only at *; omega)) (fun c290 => False.elim (by first | omega | (dsimp only at *; omega))) (fun c290 => ?_)
              refine zi_iconst F dL_isLight_293 ?_
              refine z_goto (tgt := 298) F dL_isLight_294 (by decide) ?_
              refine zi_icmp_ne (tgt := 305) F dL_isLight_298 (by decide) (by first | omega | (dsimp only at *; omega)) (fun c298 => False.elim (by first | omega | (dsimp only at *; omega))) (fun c298 => ?_)
              refine zi_iconst F dL_isLight_301 ?_
              refine z_goto (tgt := 306) F dL_isLight_302 (by decide) ?_
              refine z_istore_n F dL_isLight_306 rfl rfl (hnl _ rfl) ?_
              refine zi_iinc F dL_isLight_307 rfl rfl (hnl _ rfl) ?_
              refine z_goto (tgt := 36) F dL_isLight_310 (by decide) ?_
              exact Z.keys [5, 3, 2, 4, 0, 1] (by rw [hstep _ hr]; rfl) (Z.widen (by omega) (by omega) (ih (k + 1) (by omega) _ R5))
          | false =>
            have f6 : ¬ m = 0 := fun q => by have := F6.mpr q; rw [hw] at this; cases this
            have f8 : ¬ (zBeam (S.1.2.1 i) S.1.2.2.2.2.1 : Int) = s := fun q => f6 (f7.mpr q)
            rcases f23 with ha | ha
            · have ha2 := ha
              refine z_istore F dL_isLight_119 rfl (hnl _ rfl) ?_
              refine z_iload_n F dL_isLight_121 rfl rfl ?_
              rw [show zBo true = 1 from rfl]
              refine z_iload F dL_isLight_122 rfl ?_
              refine zi_if_eq (tgt := 131) F dL_isLight_124 (by decide) (by first | omega | (dsimp only at *; omega)) (fun c124 => False.elim (by first | omega | (dsimp only at *; omega))) (fun c124 => ?_)
              refine zi_iconst F dL_isLight_127 ?_
              refine z_goto (tgt := 132) F dL_isLight_128 (by decide) ?_
              refine zi_iadd F dL_isLight_132 ?_
              refine z_istore_n F dL_isLight_133 rfl rfl (hnl _ rfl) ?_
              refine z_iload F dL_isLight_134 rfl ?_
              refine zi_sipush F dL_isLight_136 (by decide) ?_
              refine zi_icmp_ne (tgt := 146) F dL_isLight_139 (by decide) (by first | omega | (dsimp only at *; omega)) (fun c139 => ?_) (fun c139 => False.elim (by first | omega | (dsimp only at *; omega)))
              refine zi_iconst F dL_isLight_146 ?_
              refine z_iload F dL_isLight_147 rfl ?_
              refine z_iload F dL_isLight_149 rfl ?_
              refine zi_icmp_ne (tgt := 158) F dL_isLight_151 (by decide) (by first | omega | (dsimp only at *; omega)) (fun c151 => ?_) (fun c151 => False.elim (by first | omega | (dsimp only at *; omega)))
              refine zi_iconst F dL_isLight_158 ?_
              refine zi_icmp_ne (tgt := 233) F dL_isLight_159 (by decide) (by first | omega | (dsimp only at *; omega)) (fun c159 => False.elim (by first | omega | (dsimp only at *; omega))) (fun c159 => ?_)
              refine z_iload F dL_isLight_162 rfl ?_
              refine zi_sipush F dL_isLight_164 (by decide) ?_
              refine zi_icmp_eq (tgt := 190) F dL_isLight_167 (by decide) (by first | omega | (dsimp only at *; omega)) (fun c167 => False.elim (by first | omega | (dsimp only at *; omega))) (fun c167 => ?_)
              refine z_iload F dL_isLight_170 rfl ?_
              refine zi_sipush F dL_isLight_172 (by decide) ?_
              refine zi_icmp_eq (tgt := 190) F dL_isLight_175 (by decide) (by first | omega | (dsimp only at *; omega)) (fun c175 => ?_) (fun c175 => False.elim (by first | omega | (dsimp only at *; omega)))
              refine z_iload F dL_isLight_190 rfl ?_
              refine zi_sipush F dL_isLight_192 (by decide) ?_
              refine zi_icmp_eq (tgt := 202) F dL_isLight_195 (by decide) (by first | omega | (dsimp only at *; omega)) (fun c195 => False.elim (by first | omega | (dsimp only at *; omega))) (fun c195 => ?_)
              refine zi_iconst F dL_isLight_198 ?_
              refine z_goto (tgt := 203) F dL_isLight_199 (by decide) ?_
              refine z_iload F dL_isLight_203 rfl ?_
              refine zi_icmp_ne (tgt := 233) F dL_isLight_205 (by decide) (by first | omega | (dsimp only at *; omega)) (fun c205 => False.elim (by first | omega | (dsimp only at *; omega))) (fun c205 => ?_)
              refine z_iload F dL_isLight_208 rfl ?_
              refine zi_bipush F dL_isLight_210 (by decide) ?_
              refine zi_icmp_ge (tgt := 233) F dL_isLight_212 (by decide) (by first | omega | (dsimp only at *; omega)) (fun c212 => False.elim (by first | omega | (dsimp only at *; omega))) (fun c212 => ?_)
              refine z_aload_n F dL_isLight_215 rfl rfl ?_
              refine z_iload_n F dL_isLight_216 rfl rfl ?_
              refine z_iload F dL_isLight_217 rfl ?_
              refine z_iload F dL_isLight_219 rfl ?_
              refine z_callSH F B calH_yL_minutesUntilSweptByDivision (w_minutesUntilSweptByDivision (z := (i : Int)) ⟨by omega, by omega⟩ ⟨by omega, by omega⟩ ⟨by omega, by omega⟩ R4 hO hK) dL_isLight_221 rfl rfl (Nat.le_of_ble_eq_true rfl) (by decide) (by omega) (by omega) ml_L_259 st_yL_minutesUntilSweptByDivision (fun v hX qX => ?_) (fun C h1 q => q.elim)
              clear r0 r1
              obtain ⟨rfl, R5⟩ := qX
              rw [hm2]
              have r0 := R5.2.1
              obtain ⟨σ, τ, r1⟩ := R5.2.2.1
              refine z_iload F dL_isLight_224 rfl ?_
              refine zi_icmp_ne (tgt := 233) F dL_isLight_226 (by decide) (by first | omega | (dsimp only at *; omega)) (fun c226 => False.elim (by first | omega | (dsimp only at *; omega))) (fun c226 => ?_)
              refine zi_iconst F dL_isLight_229 ?_
              refine z_goto (tgt := 234) F dL_isLight_230 (by decide) ?_
              refine z_istore_n F dL_isLight_234 rfl rfl (hnl _ rfl) ?_
              refine z_iload_n F dL_isLight_235 rfl rfl ?_
              refine zi_if_eq (tgt := 305) F dL_isLight_236 (by decide) (by first | omega | (dsimp only at *; omega)) (fun c236 => False.elim (by first | omega | (dsimp only at *; omega))) (fun c236 => ?_)
              refine z_aload_n F dL_isLight_239 rfl rfl ?_
              refine z_iload_n F dL_isLight_240 rfl rfl ?_
              refine z_iload F dL_isLight_241 rfl ?_
              refine z_iload F dL_isLight_243 rfl ?_
              refine z_callV F B cal_yX10_sweeps (n_sweeps (i := i) hi (by omega) r0 r1 hO hKK) dL_isLight_245 rfl rfl (Nat.le_of_ble_eq_true rfl) (by decide) (by omega) (by omega) ml_L_261 im_yX10_sweeps se_yX10_sweeps r0 (by decide) rfl rfl (fun v hX qX => ?_) (fun C h1 q => q.elim)
              obtain ⟨rfl, qX⟩ := qX
              rw [qX]
              clear qX hX
              rw [cell_rc, hw, show zBo false = 0 from rfl]
              refine z_iload F dL_isLight_248 rfl ?_
              refine zi_if_ne (tgt := 257) F dL_isLight_250 (by decide) (by first | omega | (dsimp only at *; omega)) (fun c250 => ?_) (fun c250 => False.elim (by first | omega | (dsimp only at *; omega)))
              refine zi_iconst F dL_isLight_257 ?_
              refine zi_icmp_ne (tgt := 305) F dL_isLight_258 (by decide) (by first | omega | (dsimp only at *; omega)) (fun c258 => False.elim (by first | omega | (dsimp only at *; omega))) (fun c258 => ?_)
              refine z_iload F dL_isLight_261 rfl ?_
              refine zi_if_eq (tgt := 301) F dL_isLight_263 (by decide) (by first | omega | (dsimp only at *; omega)) (fun c263 => False.elim (by first | omega | (dsimp only at *; omega))) (fun c263 => ?_)
              refine z_iload F dL_isLight_266 rfl ?_
              refine z_iload F dL_isLight_268 rfl ?_
              refine zi_icmp_eq (tgt := 301) F dL_isLight_270 (by decide) (by first | omega | (dsimp only at *; omega)) (fun c270 => False.elim (by first | omega | (dsimp only at *; omega))) (fun c270 => ?_)
              refine z_iload F dL_isLight_273 rfl ?_
              refine zi_if_ne (tgt := 282) F dL_isLight_275 (by decide) (by first | omega | (dsimp only at *; omega)) (fun c275 => ?_) (fun c275 => False.elim (by first | omega | (dsimp only at *; omega)))
              refine zi_iconst F dL_isLight_282 ?_
              refine z_aload_n F dL_isLight_283 rfl rfl ?_
              refine z_iload_n F dL_isLight_284 rfl rfl ?_
              refine z_callV F B cal_yX10_beam (n_beam (i := i) hi r0 r1 hO hKK) dL_isLight_285 rfl rfl (Nat.le_of_ble_eq_true rfl) (by decide) (by omega) (by omega) ml_L_193 im_yX10_beam se_yX10_beam r0 (by decide) rfl rfl (fun v hX qX => ?_) (fun C h1 q => q.elim)
              obtain ⟨rfl, qX⟩ := qX
              rw [qX]
              clear qX hX
              refine z_iload F dL_isLight_288 rfl ?_
              refine zi_icmp_ne (tgt := 297) F dL_isLight_290 (by decide) (by first | omega | (dsimp only at *; omega)) (fun c290 => ?_) (fun c290 => False.elim (by first | omega | (dsimp only at *; omega)))
              refine zi_iconst F dL_isLight_297 ?_
              refine zi_icmp_ne (tgt := 305) F dL_isLight_298 (by decide) (by first | omega | (dsimp only at *; omega)) (fun c298 => False.elim (by first | omega | (dsimp only at *; omega))) (fun c298 => ?_)
              refine zi_iconst F dL_isLight_301 ?_
              refine z_goto (tgt := 306) F dL_isLight_302 (by decide) ?_
              refine z_istore_n F dL_isLight_306 rfl rfl (hnl _ rfl) ?_
              refine zi_iinc F dL_isLight_307 rfl rfl (hnl _ rfl) ?_
              refine z_goto (tgt := 36) F dL_isLight_310 (by decide) ?_
              exact Z.keys [5, 3, 2, 4, 0, 1] (by rw [hstep _ hr]; rfl) (Z.widen (by omega) (by omega) (ih (k + 1) (by omega) _ R5))
            · have ha2 : ¬ a = -1000 := by omega
              refine z_istore F dL_isLight_119 rfl (hnl _ rfl) ?_
              refine z_iload_n F dL_isLight_121 rfl rfl ?_
              rw [show zBo true = 1 from rfl]
              refine z_iload F dL_isLight_122 rfl ?_
              refine zi_if_eq (tgt := 131) F dL_isLight_124 (by decide) (by first | omega | (dsimp only at *; omega)) (fun c124 => False.elim (by first | omega | (dsimp only at *; omega))) (fun c124 => ?_)
              refine zi_iconst F dL_isLight_127 ?_
              refine z_goto (tgt := 132) F dL_isLight_128 (by decide) ?_
              refine zi_iadd F dL_isLight_132 ?_
              refine z_istore_n F dL_isLight_133 rfl rfl (hnl _ rfl) ?_
              refine z_iload F dL_isLight_134 rfl ?_
              refine zi_sipush F dL_isLight_136 (by decide) ?_
              refine zi_icmp_ne (tgt := 146) F dL_isLight_139 (by decide) (by first | omega | (dsimp only at *; omega)) (fun c139 => ?_) (fun c139 => False.elim (by first | omega | (dsimp only at *; omega)))
              refine zi_iconst F dL_isLight_146 ?_
              refine z_iload F dL_isLight_147 rfl ?_
              refine z_iload F dL_isLight_149 rfl ?_
              refine zi_icmp_ne (tgt := 158) F dL_isLight_151 (by decide) (by first | omega | (dsimp only at *; omega)) (fun c151 => ?_) (fun c151 => False.elim (by first | omega | (dsimp only at *; omega)))
              refine zi_iconst F dL_isLight_158 ?_
              refine zi_icmp_ne (tgt := 233) F dL_isLight_159 (by decide) (by first | omega | (dsimp only at *; omega)) (fun c159 => False.elim (by first | omega | (dsimp only at *; omega))) (fun c159 => ?_)
              refine z_iload F dL_isLight_162 rfl ?_
              refine zi_sipush F dL_isLight_164 (by decide) ?_
              refine zi_icmp_eq (tgt := 190) F dL_isLight_167 (by decide) (by first | omega | (dsimp only at *; omega)) (fun c167 => False.elim (by first | omega | (dsimp only at *; omega))) (fun c167 => ?_)
              refine z_iload F dL_isLight_170 rfl ?_
              refine zi_sipush F dL_isLight_172 (by decide) ?_
              refine zi_icmp_eq (tgt := 190) F dL_isLight_175 (by decide) (by first | omega | (dsimp only at *; omega)) (fun c175 => False.elim (by first | omega | (dsimp only at *; omega))) (fun c175 => ?_)
              refine z_iload F dL_isLight_178 rfl ?_
              refine z_iload F dL_isLight_180 rfl ?_
              refine zi_iconst F dL_isLight_182 ?_
              refine zi_iadd F dL_isLight_183 ?_
              refine zi_bipush F dL_isLight_184 (by decide) ?_
              refine zi_irem F dL_isLight_186 (by omega) ?_
              refine zi_icmp_ne (tgt := 233) F dL_isLight_187 (by decide) (by first | omega | (dsimp only at *; omega)) (fun c187 => False.elim (by first | omega | (dsimp only at *; omega))) (fun c187 => ?_)
              refine z_iload F dL_isLight_190 rfl ?_
              refine zi_sipush F dL_isLight_192 (by decide) ?_
              refine zi_icmp_eq (tgt := 202) F dL_isLight_195 (by decide) (by first | omega | (dsimp only at *; omega)) (fun c195 => False.elim (by first | omega | (dsimp only at *; omega))) (fun c195 => ?_)
              refine zi_iconst F dL_isLight_198 ?_
              refine z_goto (tgt := 203) F dL_isLight_199 (by decide) ?_
              refine z_iload F dL_isLight_203 rfl ?_
              refine zi_icmp_ne (tgt := 233) F dL_isLight_205 (by decide) (by first | omega | (dsimp only at *; omega)) (fun c205 => False.elim (by first | omega | (dsimp only at *; omega))) (fun c205 => ?_)
              refine z_iload F dL_isLight_208 rfl ?_
              refine zi_bipush F dL_isLight_210 (by decide) ?_
              refine zi_icmp_ge (tgt := 233) F dL_isLight_212 (by decide) (by first | omega | (dsimp only at *; omega)) (fun c212 => False.elim (by first | omega | (dsimp only at *; omega))) (fun c212 => ?_)
              refine z_aload_n F dL_isLight_215 rfl rfl ?_
              refine z_iload_n F dL_isLight_216 rfl rfl ?_
              refine z_iload F dL_isLight_217 rfl ?_
              refine z_iload F dL_isLight_219 rfl ?_
              refine z_callSH F B calH_yL_minutesUntilSweptByDivision (w_minutesUntilSweptByDivision (z := (i : Int)) ⟨by omega, by omega⟩ ⟨by omega, by omega⟩ ⟨by omega, by omega⟩ R4 hO hK) dL_isLight_221 rfl rfl (Nat.le_of_ble_eq_true rfl) (by decide) (by omega) (by omega) ml_L_259 st_yL_minutesUntilSweptByDivision (fun v hX qX => ?_) (fun C h1 q => q.elim)
              clear r0 r1
              obtain ⟨rfl, R5⟩ := qX
              rw [hm2]
              have r0 := R5.2.1
              obtain ⟨σ, τ, r1⟩ := R5.2.2.1
              refine z_iload F dL_isLight_224 rfl ?_
              refine zi_icmp_ne (tgt := 233) F dL_isLight_226 (by decide) (by first | omega | (dsimp only at *; omega)) (fun c226 => False.elim (by first | omega | (dsimp only at *; omega))) (fun c226 => ?_)
              refine zi_iconst F dL_isLight_229 ?_
              refine z_goto (tgt := 234) F dL_isLight_230 (by decide) ?_
              refine z_istore_n F dL_isLight_234 rfl rfl (hnl _ rfl) ?_
              refine z_iload_n F dL_isLight_235 rfl rfl ?_
              refine zi_if_eq (tgt := 305) F dL_isLight_236 (by decide) (by first | omega | (dsimp only at *; omega)) (fun c236 => False.elim (by first | omega | (dsimp only at *; omega))) (fun c236 => ?_)
              refine z_aload_n F dL_isLight_239 rfl rfl ?_
              refine z_iload_n F dL_isLight_240 rfl rfl ?_
              refine z_iload F dL_isLight_241 rfl ?_
              refine z_iload F dL_isLight_243 rfl ?_
              refine z_callV F B cal_yX10_sweeps (n_sweeps (i := i) hi (by omega) r0 r1 hO hKK) dL_isLight_245 rfl rfl (Nat.le_of_ble_eq_true rfl) (by decide) (by omega) (by omega) ml_L_261 im_yX10_sweeps se_yX10_sweeps r0 (by decide) rfl rfl (fun v hX qX => ?_) (fun C h1 q => q.elim)
              obtain ⟨rfl, qX⟩ := qX
              rw [qX]
              clear qX hX
              rw [cell_rc, hw, show zBo false = 0 from rfl]
              refine z_iload F dL_isLight_248 rfl ?_
              refine zi_if_ne (tgt := 257) F dL_isLight_250 (by decide) (by first | omega | (dsimp only at *; omega)) (fun c250 => ?_) (fun c250 => False.elim (by first | omega | (dsimp only at *; omega)))
              refine zi_iconst F dL_isLight_257 ?_
              refine zi_icmp_ne (tgt := 305) F dL_isLight_258 (by decide) (by first | omega | (dsimp only at *; omega)) (fun c258 => False.elim (by first | omega | (dsimp only at *; omega))) (fun c258 => ?_)
              refine z_iload F dL_isLight_261 rfl ?_
              refine zi_if_eq (tgt := 301) F dL_isLight_263 (by decide) (by first | omega | (dsimp only at *; omega)) (fun c263 => False.elim (by first | omega | (dsimp only at *; omega))) (fun c263 => ?_)
              refine z_iload F dL_isLight_266 rfl ?_
              refine z_iload F dL_isLight_268 rfl ?_
              refine zi_icmp_eq (tgt := 301) F dL_isLight_270 (by decide) (by first | omega | (dsimp only at *; omega)) (fun c270 => False.elim (by first | omega | (dsimp only at *; omega))) (fun c270 => ?_)
              refine z_iload F dL_isLight_273 rfl ?_
              refine zi_if_ne (tgt := 282) F dL_isLight_275 (by decide) (by first | omega | (dsimp only at *; omega)) (fun c275 => ?_) (fun c275 => False.elim (by first | omega | (dsimp only at *; omega)))
              refine zi_iconst F dL_isLight_282 ?_
              refine z_aload_n F dL_isLight_283 rfl rfl ?_
              refine z_iload_n F dL_isLight_284 rfl rfl ?_
              refine z_callV F B cal_yX10_beam (n_beam (i := i) hi r0 r1 hO hKK) dL_isLight_285 rfl rfl (Nat.le_of_ble_eq_true rfl) (by decide) (by omega) (by omega) ml_L_193 im_yX10_beam se_yX10_beam r0 (by decide) rfl rfl (fun v hX qX => ?_) (fun C h1 q => q.elim)
              obtain ⟨rfl, qX⟩ := qX
              rw [qX]
              clear qX hX
              refine z_iload F dL_isLight_288 rfl ?_
              refine zi_icmp_ne (tgt := 297) F dL_isLight_290 (by decide) (by first | omega | (dsimp only at *; omega)) (fun c290 => ?_) (fun c290 => False.elim (by first | omega | (dsimp only at *; omega)))
              refine zi_iconst F dL_isLight_297 ?_
              refine zi_icmp_ne (tgt := 305) F dL_isLight_298 (by decide) (by first | omega | (dsimp only at *; omega)) (fun c298 => False.elim (by first | omega | (dsimp only at *; omega))) (fun c298 => ?_)
              refine zi_iconst F dL_isLight_301 ?_
              refine z_goto (tgt := 306) F dL_isLight_302 (by decide) ?_
              refine z_istore_n F dL_isLight_306 rfl rfl (hnl _ rfl) ?_
              refine zi_iinc F dL_isLight_307 rfl rfl (hnl _ rfl) ?_
              refine z_goto (tgt := 36) F dL_isLight_310 (by decide) ?_
              exact Z.keys [5, 3, 2, 4, 0, 1] (by rw [hstep _ hr]; rfl) (Z.widen (by omega) (by omega) (ih (k + 1) (by omega) _ R5))
        | false =>
          have f4 := F4 hr
          have hw : f_swp S.1 (S.1.2.1 i) k = false := by
            cases hq : f_swp S.1 (S.1.2.1 i) k with
            | false => rfl
            | true => have := F6.mp hq; omega
          rcases f23 with ha | ha
          · have ha2 := ha
            refine z_istore F dL_isLight_119 rfl (hnl _ rfl) ?_
            refine z_iload_n F dL_isLight_121 rfl rfl ?_
            rw [show zBo false = 0 from rfl]
            refine z_iload F dL_isLight_122 rfl ?_
            refine zi_if_eq (tgt := 131) F dL_isLight_124 (by decide) (by first | omega | (dsimp only at *; omega)) (fun c124 => ?_) (fun c124 => False.elim (by first | omega | (dsimp only at *; omega)))
            refine zi_iconst F dL_isLight_131 ?_
            refine zi_iadd F dL_isLight_132 ?_
            refine z_istore_n F dL_isLight_133 rfl rfl (hnl _ rfl) ?_
            refine z_iload F dL_isLight_134 rfl ?_
            refine zi_sipush F dL_isLight_136 (by decide) ?_
            refine zi_icmp_ne (tgt := 146) F dL_isLight_139 (by decide) (by first | omega | (dsimp only at *; omega)) (fun c139 => ?_) (fun c139 => False.elim (by first | omega | (dsimp only at *; omega)))
            refine zi_iconst F dL_isLight_146 ?_
            refine z_iload F dL_isLight_147 rfl ?_
            refine z_iload F dL_isLight_149 rfl ?_
            refine zi_icmp_ne (tgt := 158) F dL_isLight_151 (by decide) (by first | omega | (dsimp only at *; omega)) (fun c151 => ?_) (fun c151 => False.elim (by first | omega | (dsimp only at *; omega)))
            refine zi_iconst F dL_isLight_158 ?_
            refine zi_icmp_ne (tgt := 233) F dL_isLight_159 (by decide) (by first | omega | (dsimp only at *; omega)) (fun c159 => False.elim (by first | omega | (dsimp only at *; omega))) (fun c159 => ?_)
            refine z_iload F dL_isLight_162 rfl ?_
            refine zi_sipush F dL_isLight_164 (by decide) ?_
            refine zi_icmp_eq (tgt := 190) F dL_isLight_167 (by decide) (by first | omega | (dsimp only at *; omega)) (fun c167 => False.elim (by first | omega | (dsimp only at *; omega))) (fun c167 => ?_)
            refine z_iload F dL_isLight_170 rfl ?_
            refine zi_sipush F dL_isLight_172 (by decide) ?_
            refine zi_icmp_eq (tgt := 190) F dL_isLight_175 (by decide) (by first | omega | (dsimp only at *; omega)) (fun c175 => ?_) (fun c175 => False.elim (by first | omega | (dsimp only at *; omega)))
            refine z_iload F dL_isLight_190 rfl ?_
            refine zi_sipush F dL_isLight_192 (by decide) ?_
            refine zi_icmp_eq (tgt := 202) F dL_isLight_195 (by decide) (by first | omega | (dsimp only at *; omega)) (fun c195 => ?_) (fun c195 => False.elim (by first | omega | (dsimp only at *; omega)))
            refine zi_iconst F dL_isLight_202 ?_
            refine z_iload F dL_isLight_203 rfl ?_
            refine zi_icmp_ne (tgt := 233) F dL_isLight_205 (by decide) (by first | omega | (dsimp only at *; omega)) (fun c205 => False.elim (by first | omega | (dsimp only at *; omega))) (fun c205 => ?_)
            refine z_iload F dL_isLight_208 rfl ?_
            refine zi_bipush F dL_isLight_210 (by decide) ?_
            refine zi_icmp_ge (tgt := 233) F dL_isLight_212 (by decide) (by first | omega | (dsimp only at *; omega)) (fun c212 => False.elim (by first | omega | (dsimp only at *; omega))) (fun c212 => ?_)
            refine z_aload_n F dL_isLight_215 rfl rfl ?_
            refine z_iload_n F dL_isLight_216 rfl rfl ?_
            refine z_iload F dL_isLight_217 rfl ?_
            refine z_iload F dL_isLight_219 rfl ?_
            refine z_callSH F B calH_yL_minutesUntilSweptByDivision (w_minutesUntilSweptByDivision (z := (i : Int)) ⟨by omega, by omega⟩ ⟨by omega, by omega⟩ ⟨by omega, by omega⟩ R4 hO hK) dL_isLight_221 rfl rfl (Nat.le_of_ble_eq_true rfl) (by decide) (by omega) (by omega) ml_L_259 st_yL_minutesUntilSweptByDivision (fun v hX qX => ?_) (fun C h1 q => q.elim)
            clear r0 r1
            obtain ⟨rfl, R5⟩ := qX
            rw [hm2]
            have r0 := R5.2.1
            obtain ⟨σ, τ, r1⟩ := R5.2.2.1
            refine z_iload F dL_isLight_224 rfl ?_
            refine zi_icmp_ne (tgt := 233) F dL_isLight_226 (by decide) (by first | omega | (dsimp only at *; omega)) (fun c226 => False.elim (by first | omega | (dsimp only at *; omega))) (fun c226 => ?_)
            refine zi_iconst F dL_isLight_229 ?_
            refine z_goto (tgt := 234) F dL_isLight_230 (by decide) ?_
            refine z_istore_n F dL_isLight_234 rfl rfl (hnl _ rfl) ?_
            refine z_iload_n F dL_isLight_235 rfl rfl ?_
            refine zi_if_eq (tgt := 305) F dL_isLight_236 (by decide) (by first | omega | (dsimp only at *; omega)) (fun c236 => False.elim (by first | omega | (dsimp only at *; omega))) (fun c236 => ?_)
            refine z_aload_n F dL_isLight_239 rfl rfl ?_
            refine z_iload_n F dL_isLight_240 rfl rfl ?_
            refine z_iload F dL_isLight_241 rfl ?_
            refine z_iload F dL_isLight_243 rfl ?_
            refine z_callV F B cal_yX10_sweeps (n_sweeps (i := i) hi (by omega) r0 r1 hO hKK) dL_isLight_245 rfl rfl (Nat.le_of_ble_eq_true rfl) (by decide) (by omega) (by omega) ml_L_261 im_yX10_sweeps se_yX10_sweeps r0 (by decide) rfl rfl (fun v hX qX => ?_) (fun C h1 q => q.elim)
            obtain ⟨rfl, qX⟩ := qX
            rw [qX]
            clear qX hX
            rw [cell_rc, hw, show zBo false = 0 from rfl]
            refine z_iload F dL_isLight_248 rfl ?_
            refine zi_if_ne (tgt := 257) F dL_isLight_250 (by decide) (by first | omega | (dsimp only at *; omega)) (fun c250 => ?_) (fun c250 => False.elim (by first | omega | (dsimp only at *; omega)))
            refine zi_iconst F dL_isLight_257 ?_
            refine zi_icmp_ne (tgt := 305) F dL_isLight_258 (by decide) (by first | omega | (dsimp only at *; omega)) (fun c258 => False.elim (by first | omega | (dsimp only at *; omega))) (fun c258 => ?_)
            refine z_iload F dL_isLight_261 rfl ?_
            refine zi_if_eq (tgt := 301) F dL_isLight_263 (by decide) (by first | omega | (dsimp only at *; omega)) (fun c263 => ?_) (fun c263 => False.elim (by first | omega | (dsimp only at *; omega)))
            refine zi_iconst F dL_isLight_301 ?_
            refine z_goto (tgt := 306) F dL_isLight_302 (by decide) ?_
            refine z_istore_n F dL_isLight_306 rfl rfl (hnl _ rfl) ?_
            refine zi_iinc F dL_isLight_307 rfl rfl (hnl _ rfl) ?_
            refine z_goto (tgt := 36) F dL_isLight_310 (by decide) ?_
            exact Z.keys [5, 3, 2, 4, 0, 1] (by rw [hstep _ hr]; rfl) (Z.widen (by omega) (by omega) (ih (k + 1) (by omega) _ R5))
          · have ha2 : ¬ a = -1000 := by omega
            refine z_istore F dL_isLight_119 rfl (hnl _ rfl) ?_
            refine z_iload_n F dL_isLight_121 rfl rfl ?_
            rw [show zBo false = 0 from rfl]
            refine z_iload F dL_isLight_122 rfl ?_
            refine zi_if_eq (tgt := 131) F dL_isLight_124 (by decide) (by first | omega | (dsimp only at *; omega)) (fun c124 => ?_) (fun c124 => False.elim (by first | omega | (dsimp only at *; omega)))
            refine zi_iconst F dL_isLight_131 ?_
            refine zi_iadd F dL_isLight_132 ?_
            refine z_istore_n F dL_isLight_133 rfl rfl (hnl _ rfl) ?_
            refine z_iload F dL_isLight_134 rfl ?_
            refine zi_sipush F dL_isLight_136 (by decide) ?_
            refine zi_icmp_ne (tgt := 146) F dL_isLight_139 (by decide) (by first | omega | (dsimp only at *; omega)) (fun c139 => ?_) (fun c139 => False.elim (by first | omega | (dsimp only at *; omega)))
            refine zi_iconst F dL_isLight_146 ?_
            refine z_iload F dL_isLight_147 rfl ?_
            refine z_iload F dL_isLight_149 rfl ?_
            refine zi_icmp_ne (tgt := 158) F dL_isLight_151 (by decide) (by first | omega | (dsimp only at *; omega)) (fun c151 => ?_) (fun c151 => False.elim (by first | omega | (dsimp only at *; omega)))
            refine zi_iconst F dL_isLight_158 ?_
            refine zi_icmp_ne (tgt := 233) F dL_isLight_159 (by decide) (by first | omega | (dsimp only at *; omega)) (fun c159 => False.elim (by first | omega | (dsimp only at *; omega))) (fun c159 => ?_)
            refine z_iload F dL_isLight_162 rfl ?_
            refine zi_sipush F dL_isLight_164 (by decide) ?_
            refine zi_icmp_eq (tgt := 190) F dL_isLight_167 (by decide) (by first | omega | (dsimp only at *; omega)) (fun c167 => False.elim (by first | omega | (dsimp only at *; omega))) (fun c167 => ?_)
            refine z_iload F dL_isLight_170 rfl ?_
            refine zi_sipush F dL_isLight_172 (by decide) ?_
            refine zi_icmp_eq (tgt := 190) F dL_isLight_175 (by decide) (by first | omega | (dsimp only at *; omega)) (fun c175 => False.elim (by first | omega | (dsimp only at *; omega))) (fun c175 => ?_)
            refine z_iload F dL_isLight_178 rfl ?_
            refine z_iload F dL_isLight_180 rfl ?_
            refine zi_iconst F dL_isLight_182 ?_
            refine zi_iadd F dL_isLight_183 ?_
            refine zi_bipush F dL_isLight_184 (by decide) ?_
            refine zi_irem F dL_isLight_186 (by omega) ?_
            refine zi_icmp_ne (tgt := 233) F dL_isLight_187 (by decide) (by first | omega | (dsimp only at *; omega)) (fun c187 => False.elim (by first | omega | (dsimp only at *; omega))) (fun c187 => ?_)
            refine z_iload F dL_isLight_190 rfl ?_
            refine zi_sipush F dL_isLight_192 (by decide) ?_
            refine zi_icmp_eq (tgt := 202) F dL_isLight_195 (by decide) (by first | omega | (dsimp only at *; omega)) (fun c195 => ?_) (fun c195 => False.elim (by first | omega | (dsimp only at *; omega)))
            refine zi_iconst F dL_isLight_202 ?_
            refine z_iload F dL_isLight_203 rfl ?_
            refine zi_icmp_ne (tgt := 233) F dL_isLight_205 (by decide) (by first | omega | (dsimp only at *; omega)) (fun c205 => False.elim (by first | omega | (dsimp only at *; omega))) (fun c205 => ?_)
            refine z_iload F dL_isLight_208 rfl ?_
            refine zi_bipush F dL_isLight_210 (by decide) ?_
            refine zi_icmp_ge (tgt := 233) F dL_isLight_212 (by decide) (by first | omega | (dsimp only at *; omega)) (fun c212 => False.elim (by first | omega | (dsimp only at *; omega))) (fun c212 => ?_)
            refine z_aload_n F dL_isLight_215 rfl rfl ?_
            refine z_iload_n F dL_isLight_216 rfl rfl ?_
            refine z_iload F dL_isLight_217 rfl ?_
            refine z_iload F dL_isLight_219 rfl ?_
            refine z_callSH F B calH_yL_minutesUntilSweptByDivision (w_minutesUntilSweptByDivision (z := (i : Int)) ⟨by omega, by omega⟩ ⟨by omega, by omega⟩ ⟨by omega, by omega⟩ R4 hO hK) dL_isLight_221 rfl rfl (Nat.le_of_ble_eq_true rfl) (by decide) (by omega) (by omega) ml_L_259 st_yL_minutesUntilSweptByDivision (fun v hX qX => ?_) (fun C h1 q => q.elim)
            clear r0 r1
            obtain ⟨rfl, R5⟩ := qX
            rw [hm2]
            have r0 := R5.2.1
            obtain ⟨σ, τ, r1⟩ := R5.2.2.1
            refine z_iload F dL_isLight_224 rfl ?_
            refine zi_icmp_ne (tgt := 233) F dL_isLight_226 (by decide) (by first | omega | (dsimp only at *; omega)) (fun c226 => False.elim (by first | omega | (dsimp only at *; omega))) (fun c226 => ?_)
            refine zi_iconst F dL_isLight_229 ?_
            refine z_goto (tgt := 234) F dL_isLight_230 (by decide) ?_
            refine z_istore_n F dL_isLight_234 rfl rfl (hnl _ rfl) ?_
            refine z_iload_n F dL_isLight_235 rfl rfl ?_
            refine zi_if_eq (tgt := 305) F dL_isLight_236 (by decide) (by first | omega | (dsimp only at *; omega)) (fun c236 => False.elim (by first | omega | (dsimp only at *; omega))) (fun c236 => ?_)
            refine z_aload_n F dL_isLight_239 rfl rfl ?_
            refine z_iload_n F dL_isLight_240 rfl rfl ?_
            refine z_iload F dL_isLight_241 rfl ?_
            refine z_iload F dL_isLight_243 rfl ?_
            refine z_callV F B cal_yX10_sweeps (n_sweeps (i := i) hi (by omega) r0 r1 hO hKK) dL_isLight_245 rfl rfl (Nat.le_of_ble_eq_true rfl) (by decide) (by omega) (by omega) ml_L_261 im_yX10_sweeps se_yX10_sweeps r0 (by decide) rfl rfl (fun v hX qX => ?_) (fun C h1 q => q.elim)
            obtain ⟨rfl, qX⟩ := qX
            rw [qX]
            clear qX hX
            rw [cell_rc, hw, show zBo false = 0 from rfl]
            refine z_iload F dL_isLight_248 rfl ?_
            refine zi_if_ne (tgt := 257) F dL_isLight_250 (by decide) (by first | omega | (dsimp only at *; omega)) (fun c250 => ?_) (fun c250 => False.elim (by first | omega | (dsimp only at *; omega)))
            refine zi_iconst F dL_isLight_257 ?_
            refine zi_icmp_ne (tgt := 305) F dL_isLight_258 (by decide) (by first | omega | (dsimp only at *; omega)) (fun c258 => False.elim (by first | omega | (dsimp only at *; omega))) (fun c258 => ?_)
            refine z_iload F dL_isLight_261 rfl ?_
            refine zi_if_eq (tgt := 301) F dL_isLight_263 (by decide) (by first | omega | (dsimp only at *; omega)) (fun c263 => ?_) (fun c263 => False.elim (by first | omega | (dsimp only at *; omega)))
            refine zi_iconst F dL_isLight_301 ?_
            refine z_goto (tgt := 306) F dL_isLight_302 (by decide) ?_
            refine z_istore_n F dL_isLight_306 rfl rfl (hnl _ rfl) ?_
            refine zi_iinc F dL_isLight_307 rfl rfl (hnl _ rfl) ?_
            refine z_goto (tgt := 36) F dL_isLight_310 (by decide) ?_
            exact Z.keys [5, 3, 2, 4, 0, 1] (by rw [hstep _ hr]; rfl) (Z.widen (by omega) (by omega) (ih (k + 1) (by omega) _ R5))
  have r0 := R.2.1
  obtain ⟨σ, τ, r1⟩ := R.2.2.1
  refine zi_iconst F dL_isLight_0 ?_
  refine z_istore_n F dL_isLight_1 rfl rfl (hnl _ rfl) ?_
  refine z_aload_n F dL_isLight_2 rfl rfl ?_
  refine z_iload_n F dL_isLight_3 rfl rfl ?_
  refine z_callV F B cal_yX10_beam (n_beam (i := i) hi r0 r1 hO hKK) dL_isLight_4 rfl rfl (Nat.le_of_ble_eq_true rfl) (by decide) (by omega) (by omega) ml_L_193 im_yX10_beam se_yX10_beam r0 (by decide) rfl rfl (fun v hX qX => ?_) (fun C h1 q => q.elim)
  obtain ⟨rfl, qX⟩ := qX
  rw [qX]
  clear qX hX
  refine zi_if_lt (tgt := 24) F dL_isLight_7 (by decide) (by first | omega | (dsimp only at *; omega)) (fun c7 => False.elim (by first | omega | (dsimp only at *; omega))) (fun c7 => ?_)
  refine z_aload_n F dL_isLight_10 rfl rfl ?_
  refine z_iload_n F dL_isLight_11 rfl rfl ?_
  refine z_callV F B cal_yX10_beam (n_beam (i := i) hi r0 r1 hO hKK) dL_isLight_12 rfl rfl (Nat.le_of_ble_eq_true rfl) (by decide) (by omega) (by omega) ml_L_193 im_yX10_beam se_yX10_beam r0 (by decide) rfl rfl (fun v hX qX => ?_) (fun C h1 q => q.elim)
  obtain ⟨rfl, qX⟩ := qX
  rw [qX]
  clear qX hX
  refine zi_bipush F dL_isLight_15 (by decide) ?_
  refine zi_icmp_ge (tgt := 24) F dL_isLight_17 (by decide) (by first | omega | (dsimp only at *; omega)) (fun c17 => False.elim (by first | omega | (dsimp only at *; omega))) (fun c17 => ?_)
  refine zi_iconst F dL_isLight_20 ?_
  refine z_goto (tgt := 25) F dL_isLight_21 (by decide) ?_
  refine z_istore_n F dL_isLight_25 rfl rfl (hnl _ rfl) ?_
  refine z_aload_n F dL_isLight_26 rfl rfl ?_
  refine z_iload_n F dL_isLight_27 rfl rfl ?_
  refine z_callS F B cal_yL_placeOf (w_placeOf hi hd R hO hK) dL_isLight_28 rfl rfl (Nat.le_of_ble_eq_true rfl) (by decide) (by omega) (by omega) ml_L_248 st_yL_placeOf (fun v hX qX => ?_) (fun C h1 q => q.elim)
  obtain ⟨rfl, R1⟩ := qX
  refine z_istore F dL_isLight_31 rfl (hnl _ rfl) ?_
  refine zi_iconst F dL_isLight_33 ?_
  refine z_istore F dL_isLight_34 rfl (hnl _ rfl) ?_
  exact Z.keys [5, 3, 2, 4, 0, 1] rfl (Z.widen (by omega) (by omega) (k36 64 0 rfl _ R1))
end
