/-! the law's look at the depths, over facts of the chart's mathematics -/
/-- what areDepths asks of the depths -/
def hDep (C : zCo) : Prop := (f_ord C).length = 64 ∧ (∀ c, (f_ord C)[0]? = some c → C.1 c ≤ C.1 0) ∧ (∀ r a b, (f_ord C)[r]? = some a → (f_ord C)[r + 1]? = some b → C.1 a < C.1 b ∨ (C.1 a = C.1 b ∧ a < b)) ∧ ∀ a b, a < 64 → b < 64 → f_cf C a b 10 1 0 = f_cl C a b 9 (fun c => c) ∧ f_cl C b a 9 (fun c => c) = f_cl C a b 9 (fun c => c) ∧ f_cl C a b 9 (fun c => c) ≤ C.1 a ∧ f_cl C a b 9 (fun c => c) ≤ C.1 b
theorem f_d64_e : ∀ n : Nat, n < 577 → Op.cmpValue (FP.dcmp (f_d64 n) (f_d64 n)) CmpOp.l = iI 0 := by decide +kernel
section
variable {o K : Nat} {S : zBt} {h : zH}
theorem w_areDepths (R : zRB o S h) (hO : zOk K S.1) (hK : K < 1700000) (hD : hDep S.1) : zMet yL_areDepths cL_areDepths 9 (some .boolean) 6 0 0 [.ref o] h (fun v h' => v = some (.int (iI 1)) ∧ zRB o S h') (fun _ _ => False) := by
  refine zMet.go (by decide +kernel) (Nat.le_of_ble_eq_true rfl) ?_
  intro X F B hnl hR hn
  obtain ⟨d1, d2, d3, d4⟩ := hD
  have hKK : K < 2000000 := by omega
  have hmn := hO.2.2.2.2.2.1
  have hzs := zsum_le (f := S.1.1) (M := 9) hO.1
  have hti := f_tide_le S.1.2.2.2.2.1
  -- the last stage: the mean
  have k435 : ∀ h1 : zH, zRB o S h1 → ∀ ls, zpick ls [4, 3, 0] = [(4, .int (iI 1)), (3, .int (iI (zsum S.1.1 64 : Nat))), (0, .ref o)] → Z X 0 0 435 ls [] h1 := by
    intro h1 R1 ls el
    refine Z.keys [4, 3, 0] el ?_
    have r0 := R1.2.1
    obtain ⟨σ, τ, r1⟩ := R1.2.2.1
    refine z_iload F dL_areDepths_435 rfl ?_
    refine zi_if_eq (tgt := 458) F dL_areDepths_437 (by decide) (by first | omega | (dsimp only at *; omega)) (fun c437 => False.elim (by first | omega | (dsimp only at *; omega))) (fun c437 => ?_)
    refine z_aload_n F dL_areDepths_440 rfl rfl ?_
    refine z_callV F B cal_yX10_meanDepth (m_meanDepth r0 r1 hO) dL_areDepths_441 rfl rfl (Nat.le_of_ble_eq_true rfl) (by decide) (by decide) (by decide) ml_L_242 im_yX10_meanDepth se_yX10_meanDepth r0 (by decide) rfl rfl (fun v hX qX => ?_) (fun C h1 q => q.elim)
    obtain ⟨rfl, qX⟩ := qX
    rw [qX]
    clear qX hX
    refine z_iload_n F dL_areDepths_444 rfl rfl ?_
    refine z_i2d F dL_areDepths_445 ?_
    refine z_ldc2d F dL_areDepths_446 zw_d246 ?_
    refine z_ddiv F dL_areDepths_449 (f_d64_n (zsum S.1.1 64) (by have := hzs 64; omega)) ?_
    refine z_dcmp F dL_areDepths_450 ?_
    rw [show FP.ddiv (FP.i2d (iI ((zsum S.1.1 64 : Nat) : Int))) 4634204016564240384 = f_d64 (zsum S.1.1 64) from rfl, f_d64_e (zsum S.1.1 64) (by have := hzs 64; omega)]
    refine zi_if_ne (tgt := 458) F dL_areDepths_451 (by decide) (by first | omega | (dsimp only at *; omega)) (fun c451 => False.elim (by first | omega | (dsimp only at *; omega))) (fun c451 => ?_)
    refine zi_iconst F dL_areDepths_454 ?_
    refine z_goto (tgt := 459) F dL_areDepths_455 (by decide) ?_
    exact Z.widen (by decide) (by decide) (z_ireturn F rfl B dL_areDepths_459 ⟨rfl, R1⟩)
  -- clearances
  have k278 : ∀ n k : Nat, 9 * n + k = 72 → ∀ h1 : zH, zRB o S h1 → ∀ ls, zpick ls [5, 4, 3, 0] = [(5, .int (iI k)), (4, .int (iI 1)), (3, .int (iI (zsum S.1.1 64 : Nat))), (0, .ref o)] → Z X 0 0 278 ls [] h1 := by
    intro n
    induction n with
    | zero =>
      intro k hk h1 R1 ls el
      refine Z.keys [5, 4, 3, 0] el ?_
      refine z_iload F dL_areDepths_278 rfl ?_
      refine zi_if_eq (tgt := 435) F dL_areDepths_280 (by decide) (by first | omega | (dsimp only at *; omega)) (fun c280 => False.elim (by first | omega | (dsimp only at *; omega))) (fun c280 => ?_)
      refine z_iload F dL_areDepths_283 rfl ?_
      refine zi_bipush F dL_areDepths_285 (by decide) ?_
      refine zi_icmp_ge (tgt := 435) F dL_areDepths_287 (by decide) (by first | omega | (dsimp only at *; omega)) (fun c287 => ?_) (fun c287 => False.elim (by first | omega | (dsimp only at *; omega)))
      exact k435 h1 R1 _ rfl
    | succ n ih =>
      intro k hk h1 R1 ls el
      refine Z.keys [5, 4, 3, 0] el ?_
      have r0 := R1.2.1
      obtain ⟨σ, τ, r1⟩ := R1.2.2.1
      have hk64 : k < 64 := by omega
      have ek : (8 * ((k : Int) / 8) + (k : Int) % 8).toNat = k := by omega
      obtain ⟨b, hb, eb⟩ : ∃ b : Nat, b < 64 ∧ (5 * (k : Int) + 11) % 64 = b := ⟨(5 * k + 11) % 64, by omega, by omega⟩
      have ebb : (8 * ((b : Int) / 8) + (b : Int) % 8).toNat = b := by omega
      obtain ⟨q1, q2, q3, q4⟩ := d4 k b hk64 hb
      have h9 := hO.1 k
      have h9b := hO.1 b
      generalize hcl : f_cl S.1 k b 9 (fun c => c) = cl at q1 q2 q3 q4
      refine z_iload F dL_areDepths_278 rfl ?_
      refine zi_if_eq (tgt := 435) F dL_areDepths_280 (by decide) (by first | omega | (dsimp only at *; omega)) (fun c280 => False.elim (by first | omega | (dsimp only at *; omega))) (fun c280 => ?_)
      refine z_iload F dL_areDepths_283 rfl ?_
      refine zi_bipush F dL_areDepths_285 (by decide) ?_
      refine zi_icmp_ge (tgt := 435) F dL_areDepths_287 (by decide) (by first | omega | (dsimp only at *; omega)) (fun c287 => False.elim (by first | omega | (dsimp only at *; omega))) (fun c287 => ?_)
      refine zi_iconst F dL_areDepths_290 ?_
      refine z_iload F dL_areDepths_291 rfl ?_
      refine zi_imul F dL_areDepths_293 ?_
      refine zi_bipush F dL_areDepths_294 (by decide) ?_
      refine zi_iadd F dL_areDepths_296 ?_
      refine zi_bipush F dL_areDepths_297 (by decide) ?_
      refine zi_irem F dL_areDepths_299 (by omega) ?_
      rw [eb]
      refine z_istore F dL_areDepths_300 rfl (hnl _ rfl) ?_
      refine z_aload_n F dL_areDepths_302 rfl rfl ?_
      refine z_iload F dL_areDepths_303 rfl ?_
      refine zi_bipush F dL_areDepths_305 (by decide) ?_
      refine zi_irem F dL_areDepths_307 (by omega) ?_
      refine z_iload F dL_areDepths_308 rfl ?_
      refine zi_bipush F dL_areDepths_310 (by decide) ?_
      refine zi_idiv F dL_areDepths_312 (by omega) ?_
      refine z_iload F dL_areDepths_313 rfl ?_
      refine zi_bipush F dL_areDepths_315 (by decide) ?_
      refine zi_irem F dL_areDepths_317 (by omega) ?_
      refine z_iload F dL_areDepths_318 rfl ?_
      refine zi_bipush F dL_areDepths_320 (by decide) ?_
      refine zi_idiv F dL_areDepths_322 (by omega) ?_
      refine z_callV F B cal_yX10_clearance (n_clearance (by omega) (by omega) r0 r1 hO hKK R1.2.2.2.2.2.2.1 R1.1) dL_areDepths_323 rfl rfl (Nat.le_of_ble_eq_true rfl) (by decide) (by decide) (by decide) ml_L_231 im_yX10_clearance se_yX10_clearance r0 (by decide) rfl rfl (fun v hX qX => ?_) (fun C h1 q => q.elim)
      obtain ⟨⟨-, -, rfl⟩, G, s⟩ := qX
      rw [ek, ebb, hcl]
      have R2 := R1.grp s G
      obtain ⟨σ2, τ2, r2⟩ := R2.2.2.1
      refine z_istore F dL_areDepths_326 rfl (hnl _ rfl) ?_
      refine z_aload_n F dL_areDepths_328 rfl rfl ?_
      refine z_iload F dL_areDepths_329 rfl ?_
      refine zi_bipush F dL_areDepths_331 (by decide) ?_
      refine zi_irem F dL_areDepths_333 (by omega) ?_
      refine z_iload F dL_areDepths_334 rfl ?_
      refine zi_bipush F dL_areDepths_336 (by decide) ?_
      refine zi_idiv F dL_areDepths_338 (by omega) ?_
      refine z_iload F dL_areDepths_339 rfl ?_
      refine zi_bipush F dL_areDepths_341 (by decide) ?_
      refine zi_irem F dL_areDepths_343 (by omega) ?_
      refine z_iload F dL_areDepths_344 rfl ?_
      refine zi_bipush F dL_areDepths_346 (by decide) ?_
      refine zi_idiv F dL_areDepths_348 (by omega) ?_
      refine z_callV F B cal_yX10_clearanceByFlooding (n_clearanceByFlooding (by omega) (by omega) R2.2.1 r2 hO hKK R2.2.2.2.2.2.1 R2.1) dL_areDepths_349 rfl rfl (Nat.le_of_ble_eq_true rfl) (by decide) (by decide) (by decide) ml_L_234 im_yX10_clearanceByFlooding se_yX10_clearanceByFlooding R2.2.1 (by decide) rfl rfl (fun v hX qX => ?_) (fun C h1 q => q.elim)
      obtain ⟨⟨-, -, rfl⟩, W, s3⟩ := qX
      rw [ek, ebb, q1]
      have R3 := R2.ways s3 W
      obtain ⟨σ3, τ3, r3⟩ := R3.2.2.1
      refine z_iload F dL_areDepths_352 rfl ?_
      refine zi_icmp_ne (tgt := 426) F dL_areDepths_354 (by decide) (by first | omega | (dsimp only at *; omega)) (fun c354 => False.elim (by first | omega | (dsimp only at *; omega))) (fun c354 => ?_)
      refine z_aload_n F dL_areDepths_357 rfl rfl ?_
      refine z_iload F dL_areDepths_358 rfl ?_
      refine zi_bipush F dL_areDepths_360 (by decide) ?_
      refine zi_irem F dL_areDepths_362 (by omega) ?_
      refine z_iload F dL_areDepths_363 rfl ?_
      refine zi_bipush F dL_areDepths_365 (by decide) ?_
      refine zi_idiv F dL_areDepths_367 (by omega) ?_
      refine z_iload F dL_areDepths_368 rfl ?_
      refine zi_bipush F dL_areDepths_370 (by decide) ?_
      refine zi_irem F dL_areDepths_372 (by omega) ?_
      refine z_iload F dL_areDepths_373 rfl ?_
      refine zi_bipush F dL_areDepths_375 (by decide) ?_
      refine zi_idiv F dL_areDepths_377 (by omega) ?_
      refine z_callV F B cal_yX10_clearance (n_clearance (by omega) (by omega) R3.2.1 r3 hO hKK R3.2.2.2.2.2.2.1 R3.1) dL_areDepths_378 rfl rfl (Nat.le_of_ble_eq_true rfl) (by decide) (by decide) (by decide) ml_L_231 im_yX10_clearance se_yX10_clearance R3.2.1 (by decide) rfl rfl (fun v hX qX => ?_) (fun C h1 q => q.elim)
      obtain ⟨⟨-, -, rfl⟩, G4, s4⟩ := qX
      rw [ek, ebb, q2]
      have R4 := R3.grp s4 G4
      obtain ⟨σ4, τ4, r4⟩ := R4.2.2.1
      refine z_iload F dL_areDepths_381 rfl ?_
      refine zi_icmp_ne (tgt := 426) F dL_areDepths_383 (by decide) (by first | omega | (dsimp only at *; omega)) (fun c383 => False.elim (by first | omega | (dsimp only at *; omega))) (fun c383 => ?_)
      refine z_iload F dL_areDepths_386 rfl ?_
      refine z_aload_n F dL_areDepths_388 rfl rfl ?_
      refine z_iload F dL_areDepths_389 rfl ?_
      refine zi_bipush F dL_areDepths_391 (by decide) ?_
      refine zi_irem F dL_areDepths_393 (by omega) ?_
      refine z_iload F dL_areDepths_394 rfl ?_
      refine zi_bipush F dL_areDepths_396 (by decide) ?_
      refine zi_idiv F dL_areDepths_398 (by omega) ?_
      refine z_callV F B cal_yX10_depth (n_depth (by omega) R4.2.1 r4 hO hKK) dL_areDepths_399 rfl rfl (Nat.le_of_ble_eq_true rfl) (by decide) (by decide) (by decide) ml_L_190 im_yX10_depth se_yX10_depth R4.2.1 (by decide) rfl rfl (fun v hX qX => ?_) (fun C h1 q => q.elim)
      obtain ⟨rfl, qX⟩ := qX
      rw [qX]
      clear qX hX
      rw [ek]
      refine z_aload_n F dL_areDepths_402 rfl rfl ?_
      refine z_iload F dL_areDepths_403 rfl ?_
      refine zi_bipush F dL_areDepths_405 (by decide) ?_
      refine zi_irem F dL_areDepths_407 (by omega) ?_
      refine z_iload F dL_areDepths_408 rfl ?_
      refine zi_bipush F dL_areDepths_410 (by decide) ?_
      refine zi_idiv F dL_areDepths_412 (by omega) ?_
      refine z_callV F B cal_yX10_depth (n_depth (by omega) R4.2.1 r4 hO hKK) dL_areDepths_413 rfl rfl (Nat.le_of_ble_eq_true rfl) (by decide) (by decide) (by decide) ml_L_190 im_yX10_depth se_yX10_depth R4.2.1 (by decide) rfl rfl (fun v hX qX => ?_) (fun C h1 q => q.elim)
      obtain ⟨rfl, qX⟩ := qX
      rw [qX]
      clear qX hX
      rw [ebb]
      refine zi_min F dL_areDepths_416 ml_L_237 st_yJ9_min_7cf53 cal_yJ9_min_7cf53.2.1 cal_yJ9_min_7cf53.1 hR (by decide) (by decide) (by decide) (Nat.le_of_ble_eq_true rfl) (by omega) ?_
      refine zi_icmp_gt (tgt := 426) F dL_areDepths_419 (by decide) (by split <;> omega) (fun c419 => False.elim (by (split at c419 <;> omega))) (fun c419 => ?_)
      refine zi_iconst F dL_areDepths_422 ?_
      refine z_goto (tgt := 427) F dL_areDepths_423 (by decide) ?_
      refine z_istore F dL_areDepths_427 rfl (hnl _ rfl) ?_
      refine zi_iinc F dL_areDepths_429 rfl rfl (hnl _ rfl) ?_
      refine z_goto (tgt := 278) F dL_areDepths_432 (by decide) ?_
      exact ih (k + 9) (by omega) _ R4 _ rfl
  -- ranks
  have k162 : ∀ n r : Nat, 7 * n + r = 64 → 1 ≤ r → ∀ ls, zpick ls [5, 4, 3, 0] = [(5, .int (iI r)), (4, .int (iI 1)), (3, .int (iI (zsum S.1.1 64 : Nat))), (0, .ref o)] → Z X 0 0 162 ls [] h := by
    have r0 := R.2.1
    obtain ⟨σ, τ, r1⟩ := R.2.2.1
    intro n
    induction n with
    | zero =>
      intro r hr hr1 ls el
      refine Z.keys [5, 4, 3, 0] el ?_
      refine z_iload F dL_areDepths_162 rfl ?_
      refine zi_if_eq (tgt := 275) F dL_areDepths_164 (by decide) (by first | omega | (dsimp only at *; omega)) (fun c164 => False.elim (by first | omega | (dsimp only at *; omega))) (fun c164 => ?_)
      refine z_iload F dL_areDepths_167 rfl ?_
      refine zi_bipush F dL_areDepths_169 (by decide) ?_
      refine zi_icmp_ge (tgt := 275) F dL_areDepths_171 (by decide) (by first | omega | (dsimp only at *; omega)) (fun c171 => ?_) (fun c171 => False.elim (by first | omega | (dsimp only at *; omega)))
      refine zi_iconst F dL_areDepths_275 ?_
      refine z_istore F dL_areDepths_276 rfl (hnl _ rfl) ?_
      exact k278 8 0 rfl h R _ rfl
    | succ n ih =>
      intro r hr hr1 ls el
      refine Z.keys [5, 4, 3, 0] el ?_
      have hr64 : r < 64 := by omega
      obtain ⟨a, ha⟩ : ∃ a, (f_ord S.1)[r - 1]? = some a := ⟨_, List.getElem?_eq_getElem (by omega)⟩
      obtain ⟨b, hb⟩ : ∃ b, (f_ord S.1)[r]? = some b := ⟨_, List.getElem?_eq_getElem (by omega)⟩
      have hab := d3 (r - 1) a b ha (by rw [show r - 1 + 1 = r by omega]; exact hb)
      have er : ((r : Int) - 1).toNat = r - 1 := by omega
      refine z_iload F dL_areDepths_162 rfl ?_
      refine zi_if_eq (tgt := 275) F dL_areDepths_164 (by decide) (by first | omega | (dsimp only at *; omega)) (fun c164 => False.elim (by first | omega | (dsimp only at *; omega))) (fun c164 => ?_)
      refine z_iload F dL_areDepths_167 rfl ?_
      refine zi_bipush F dL_areDepths_169 (by decide) ?_
      refine zi_icmp_ge (tgt := 275) F dL_areDepths_171 (by decide) (by first | omega | (dsimp only at *; omega)) (fun c171 => False.elim (by first | omega | (dsimp only at *; omega))) (fun c171 => ?_)
      refine zi_bipush F dL_areDepths_174 (by decide) ?_
      refine z_aload_n F dL_areDepths_176 rfl rfl ?_
      refine z_iload F dL_areDepths_177 rfl ?_
      refine zi_iconst F dL_areDepths_179 ?_
      refine zi_isub F dL_areDepths_180 ?_
      refine z_callV F B cal_yX10_rowByDepth (n_rowByDepth ⟨by omega, by omega⟩ (by omega) r0 r1 hO hKK) dL_areDepths_181 rfl rfl (Nat.le_of_ble_eq_true rfl) (by decide) (by decide) (by decide) ml_L_225 im_yX10_rowByDepth se_yX10_rowByDepth r0 (by decide) rfl rfl (fun v hX qX => ?_) (fun C h1 q => q.elim)
      obtain ⟨⟨c1, hc1, -, hf1, rfl⟩, qX⟩ := qX
      rw [qX]; clear qX hX
      rw [er, ha] at hf1
      cases hf1
      refine zi_imul F dL_areDepths_184 ?_
      refine z_aload_n F dL_areDepths_185 rfl rfl ?_
      refine z_iload F dL_areDepths_186 rfl ?_
      refine zi_iconst F dL_areDepths_188 ?_
      refine zi_isub F dL_areDepths_189 ?_
      refine z_callV F B cal_yX10_columnByDepth (n_columnByDepth ⟨by omega, by omega⟩ (by omega) r0 r1 hO hKK) dL_areDepths_190 rfl rfl (Nat.le_of_ble_eq_true rfl) (by decide) (by decide) (by decide) ml_L_222 im_yX10_columnByDepth se_yX10_columnByDepth r0 (by decide) rfl rfl (fun v hX qX => ?_) (fun C h1 q => q.elim)
      obtain ⟨⟨c2, hc2, -, hf2, rfl⟩, qX⟩ := qX
      rw [qX]; clear qX hX
      rw [er, ha] at hf2
      cases hf2
      refine zi_iadd F dL_areDepths_193 ?_
      rw [show (8 * ((a : Int) / 8) + (a : Int) % 8) = (a : Int) by omega]
      refine z_istore F dL_areDepths_194 rfl (hnl _ rfl) ?_
      refine zi_bipush F dL_areDepths_196 (by decide) ?_
      refine z_aload_n F dL_areDepths_198 rfl rfl ?_
      refine z_iload F dL_areDepths_199 rfl ?_
      refine z_callV F B cal_yX10_rowByDepth (n_rowByDepth ⟨by omega, by omega⟩ (by omega) r0 r1 hO hKK) dL_areDepths_201 rfl rfl (Nat.le_of_ble_eq_true rfl) (by decide) (by decide) (by decide) ml_L_225 im_yX10_rowByDepth se_yX10_rowByDepth r0 (by decide) rfl rfl (fun v hX qX => ?_) (fun C h1 q => q.elim)
      obtain ⟨⟨c3, hc3, -, hf3, rfl⟩, qX⟩ := qX
      rw [qX]; clear qX hX
      rw [show ((r : Int)).toNat = r from rfl, hb] at hf3
      cases hf3
      refine zi_imul F dL_areDepths_204 ?_
      refine z_aload_n F dL_areDepths_205 rfl rfl ?_
      refine z_iload F dL_areDepths_206 rfl ?_
      refine z_callV F B cal_yX10_columnByDepth (n_columnByDepth ⟨by omega, by omega⟩ (by omega) r0 r1 hO hKK) dL_areDepths_208 rfl rfl (Nat.le_of_ble_eq_true rfl) (by decide) (by decide) (by decide) ml_L_222 im_yX10_columnByDepth se_yX10_columnByDepth r0 (by decide) rfl rfl (fun v hX qX => ?_) (fun C h1 q => q.elim)
      obtain ⟨⟨c4, hc4, -, hf4, rfl⟩, qX⟩ := qX
      rw [qX]; clear qX hX
      rw [show ((r : Int)).toNat = r from rfl, hb] at hf4
      cases hf4
      refine zi_iadd F dL_areDepths_211 ?_
      rw [show (8 * ((b : Int) / 8) + (b : Int) % 8) = (b : Int) by omega]
      refine z_istore F dL_areDepths_212 rfl (hnl _ rfl) ?_
      have h9a := hO.1 a
      have h9b := hO.1 b
      refine z_aload_n F dL_areDepths_214 rfl rfl ?_
      refine z_iload F dL_areDepths_215 rfl ?_
      refine zi_bipush F dL_areDepths_217 (by decide) ?_
      refine zi_irem F dL_areDepths_219 (by omega) ?_
      refine z_iload F dL_areDepths_220 rfl ?_
      refine zi_bipush F dL_areDepths_222 (by decide) ?_
      refine zi_idiv F dL_areDepths_224 (by omega) ?_
      refine z_callV F B cal_yX10_depth (n_depth (by omega) r0 r1 hO hKK) dL_areDepths_225 rfl rfl (Nat.le_of_ble_eq_true rfl) (by decide) (by decide) (by decide) ml_L_190 im_yX10_depth se_yX10_depth r0 (by decide) rfl rfl (fun v hX qX => ?_) (fun C h1 q => q.elim)
      obtain ⟨rfl, qX⟩ := qX
      rw [qX]
      clear qX hX
      rw [show (8 * ((b : Int) / 8) + (b : Int) % 8).toNat = b by omega]
      refine z_aload_n F dL_areDepths_228 rfl rfl ?_
      refine z_iload F dL_areDepths_229 rfl ?_
      refine zi_bipush F dL_areDepths_231 (by decide) ?_
      refine zi_irem F dL_areDepths_233 (by omega) ?_
      refine z_iload F dL_areDepths_234 rfl ?_
      refine zi_bipush F dL_areDepths_236 (by decide) ?_
      refine zi_idiv F dL_areDepths_238 (by omega) ?_
      refine z_callV F B cal_yX10_depth (n_depth (by omega) r0 r1 hO hKK) dL_areDepths_239 rfl rfl (Nat.le_of_ble_eq_true rfl) (by decide) (by decide) (by decide) ml_L_190 im_yX10_depth se_yX10_depth r0 (by decide) rfl rfl (fun v hX qX => ?_) (fun C h1 q => q.elim)
      obtain ⟨rfl, qX⟩ := qX
      rw [qX]
      clear qX hX
      rw [show (8 * ((a : Int) / 8) + (a : Int) % 8).toNat = a by omega]
      refine zi_isub F dL_areDepths_242 ?_
      refine z_istore F dL_areDepths_243 rfl (hnl _ rfl) ?_
      refine z_iload F dL_areDepths_245 rfl ?_
      refine zi_if_gt (tgt := 262) F dL_areDepths_247 (by decide) (by first | omega | (dsimp only at *; omega)) (fun c247 => ?_) (fun c247 => ?_)
      · refine zi_iconst F dL_areDepths_262 ?_
        refine z_goto (tgt := 267) F dL_areDepths_263 (by decide) ?_
        refine z_istore F dL_areDepths_267 rfl (hnl _ rfl) ?_
        refine zi_iinc F dL_areDepths_269 rfl rfl (hnl _ rfl) ?_
        refine z_goto (tgt := 162) F dL_areDepths_272 (by decide) ?_
        exact ih (r + 7) (by omega) (by omega) _ rfl
      · refine z_iload F dL_areDepths_250 rfl ?_
        refine zi_if_ne (tgt := 266) F dL_areDepths_252 (by decide) (by first | omega | (dsimp only at *; omega)) (fun c252 => ?_) (fun c252 => ?_)
        · exact False.elim (by omega)
        · refine z_iload F dL_areDepths_255 rfl ?_
          refine z_iload F dL_areDepths_257 rfl ?_
          refine zi_icmp_ge (tgt := 266) F dL_areDepths_259 (by decide) (by first | omega | (dsimp only at *; omega)) (fun c259 => ?_) (fun c259 => ?_)
          · exact False.elim (by omega)
          · refine zi_iconst F dL_areDepths_262 ?_
            refine z_goto (tgt := 267) F dL_areDepths_263 (by decide) ?_
            refine z_istore F dL_areDepths_267 rfl (hnl _ rfl) ?_
            refine zi_iinc F dL_areDepths_269 rfl rfl (hnl _ rfl) ?_
            refine z_goto (tgt := 162) F dL_areDepths_272 (by decide) ?_
            exact ih (r + 7) (by omega) (by omega) _ rfl
  -- water
  have k83 : ∀ n k : Nat, n + k = 64 → ∀ ls, zpick ls [5, 4, 3, 2, 0] = [(5, .int (iI k)), (4, .int (iI 1)), (3, .int (iI (zsum S.1.1 k : Nat))), (2, .int (iI (f_tide S.1.2.2.2.2.1))), (0, .ref o)] → Z X 0 0 83 ls [] h := by
    have r0 := R.2.1
    obtain ⟨σ, τ, r1⟩ := R.2.2.1
    intro n
    induction n with
    | zero =>
      intro k hk ls el
      have hk64 : k = 64 := by omega
      subst hk64
      refine Z.keys [5, 4, 3, 2, 0] el ?_
      refine z_iload F dL_areDepths_83 rfl ?_
      refine zi_if_eq (tgt := 159) F dL_areDepths_85 (by decide) (by first | omega | (dsimp only at *; omega)) (fun c85 => False.elim (by first | omega | (dsimp only at *; omega))) (fun c85 => ?_)
      refine z_iload F dL_areDepths_88 rfl ?_
      refine zi_bipush F dL_areDepths_90 (by decide) ?_
      refine zi_icmp_ge (tgt := 159) F dL_areDepths_92 (by decide) (by first | omega | (dsimp only at *; omega)) (fun c92 => ?_) (fun c92 => False.elim (by first | omega | (dsimp only at *; omega)))
      refine zi_iconst F dL_areDepths_159 ?_
      refine z_istore F dL_areDepths_160 rfl (hnl _ rfl) ?_
      exact k162 9 1 rfl (Nat.le_refl _) _ rfl
    | succ n ih =>
      intro k hk ls el
      refine Z.keys [5, 4, 3, 2, 0] el ?_
      have ek : (8 * ((k : Int) / 8) + (k : Int) % 8) = (k : Int) := by omega
      have hwa : f_wa S.1 (k : Int) = if S.1.1 k = 0 then 0 else S.1.1 k + f_tide S.1.2.2.2.2.1 := by unfold f_wa f_ww; rw [f_dep_n (by omega)]
      have h9 := hO.1 k
      refine z_iload F dL_areDepths_83 rfl ?_
      refine zi_if_eq (tgt := 159) F dL_areDepths_85 (by decide) (by first | omega | (dsimp only at *; omega)) (fun c85 => False.elim (by first | omega | (dsimp only at *; omega))) (fun c85 => ?_)
      refine z_iload F dL_areDepths_88 rfl ?_
      refine zi_bipush F dL_areDepths_90 (by decide) ?_
      refine zi_icmp_ge (tgt := 159) F dL_areDepths_92 (by decide) (by first | omega | (dsimp only at *; omega)) (fun c92 => False.elim (by first | omega | (dsimp only at *; omega))) (fun c92 => ?_)
      refine z_aload_n F dL_areDepths_95 rfl rfl ?_
      refine z_iload F dL_areDepths_96 rfl ?_
      refine zi_bipush F dL_areDepths_98 (by decide) ?_
      refine zi_irem F dL_areDepths_100 (by omega) ?_
      refine z_iload F dL_areDepths_101 rfl ?_
      refine zi_bipush F dL_areDepths_103 (by decide) ?_
      refine zi_idiv F dL_areDepths_105 (by omega) ?_
      refine z_callV F B cal_yX10_depth (n_depth (by omega) r0 r1 hO hKK) dL_areDepths_106 rfl rfl (Nat.le_of_ble_eq_true rfl) (by decide) (by decide) (by decide) ml_L_190 im_yX10_depth se_yX10_depth r0 (by decide) rfl rfl (fun v hX qX => ?_) (fun C h1 q => q.elim)
      obtain ⟨rfl, qX⟩ := qX
      rw [qX]
      clear qX hX
      rw [show (8 * ((k : Int) / 8) + (k : Int) % 8).toNat = k by omega]
      refine z_istore F dL_areDepths_109 rfl (hnl _ rfl) ?_
      refine z_iload_n F dL_areDepths_111 rfl rfl ?_
      refine z_iload F dL_areDepths_112 rfl ?_
      refine zi_iadd F dL_areDepths_114 ?_
      refine z_istore_n F dL_areDepths_115 rfl rfl (hnl _ rfl) ?_
      refine z_aload_n F dL_areDepths_116 rfl rfl ?_
      refine z_iload F dL_areDepths_117 rfl ?_
      refine zi_bipush F dL_areDepths_119 (by decide) ?_
      refine zi_irem F dL_areDepths_121 (by omega) ?_
      refine z_iload F dL_areDepths_122 rfl ?_
      refine zi_bipush F dL_areDepths_124 (by decide) ?_
      refine zi_idiv F dL_areDepths_126 (by omega) ?_
      refine z_callV F B cal_yX10_water (n_water (by omega) r0 r1 hO hKK) dL_areDepths_127 rfl rfl (Nat.le_of_ble_eq_true rfl) (by decide) (by decide) (by decide) ml_L_228 im_yX10_water se_yX10_water r0 (by decide) rfl rfl (fun v hX qX => ?_) (fun C h1 q => q.elim)
      obtain ⟨rfl, qX⟩ := qX
      rw [qX]
      clear qX hX
      rw [ek, hwa]
      refine z_iload F dL_areDepths_130 rfl ?_
      refine zi_if_ne (tgt := 139) F dL_areDepths_132 (by decide) (by first | omega | (dsimp only at *; omega)) (fun c132 => ?_) (fun c132 => ?_)
      · refine z_iload F dL_areDepths_139 rfl ?_
        refine z_iload_n F dL_areDepths_141 rfl rfl ?_
        refine zi_iadd F dL_areDepths_142 ?_
        refine zi_icmp_ne (tgt := 150) F dL_areDepths_143 (by decide) (by split <;> omega) (fun c143 => False.elim (by (split at c143 <;> omega))) (fun c143 => ?_)
        refine zi_iconst F dL_areDepths_146 ?_
        refine z_goto (tgt := 151) F dL_areDepths_147 (by decide) ?_
        refine z_istore F dL_areDepths_151 rfl (hnl _ rfl) ?_
        refine zi_iinc F dL_areDepths_153 rfl rfl (hnl _ rfl) ?_
        refine z_goto (tgt := 83) F dL_areDepths_156 (by decide) ?_
        exact ih (k + 1) (by omega) _ rfl
      · refine zi_iconst F dL_areDepths_135 ?_
        refine z_goto (tgt := 143) F dL_areDepths_136 (by decide) ?_
        refine zi_icmp_ne (tgt := 150) F dL_areDepths_143 (by decide) (by split <;> omega) (fun c143 => False.elim (by (split at c143 <;> omega))) (fun c143 => ?_)
        refine zi_iconst F dL_areDepths_146 ?_
        refine z_goto (tgt := 151) F dL_areDepths_147 (by decide) ?_
        refine z_istore F dL_areDepths_151 rfl (hnl _ rfl) ?_
        refine zi_iinc F dL_areDepths_153 rfl rfl (hnl _ rfl) ?_
        refine z_goto (tgt := 83) F dL_areDepths_156 (by decide) ?_
        exact ih (k + 1) (by omega) _ rfl
  have k39 : ∀ t : Int, t = (f_tide S.1.2.2.2.2.1 : Nat) → Z X 0 0 39 [(0, .ref o)] [.int (iI t)] h := by
    have r0 := R.2.1
    obtain ⟨σ, τ, r1⟩ := R.2.2.1
    obtain ⟨a, ha⟩ : ∃ a, (f_ord S.1)[0]? = some a := ⟨_, List.getElem?_eq_getElem (by omega)⟩
    have hmin := d2 a ha
    intro t ht
    subst ht
    refine z_istore_n F dL_areDepths_39 rfl rfl (hnl _ rfl) ?_
    refine zi_iconst F dL_areDepths_40 ?_
    refine z_istore_n F dL_areDepths_41 rfl rfl (hnl _ rfl) ?_
    refine z_aload_n F dL_areDepths_42 rfl rfl ?_
    refine z_callV F B cal_yX10_tide (m_tide r0 r1 hO hKK) dL_areDepths_43 rfl rfl (Nat.le_of_ble_eq_true rfl) (by decide) (by decide) (by decide) ml_L_219 im_yX10_tide se_yX10_tide r0 (by decide) rfl rfl (fun v hX qX => ?_) (fun C h1 q => q.elim)
    obtain ⟨rfl, qX⟩ := qX
    rw [qX]
    clear qX hX
    refine z_iload_n F dL_areDepths_46 rfl rfl ?_
    refine zi_icmp_ne (tgt := 77) F dL_areDepths_47 (by decide) (by first | omega | (dsimp only at *; omega)) (fun c47 => False.elim (by first | omega | (dsimp only at *; omega))) (fun c47 => ?_)
    refine z_aload_n F dL_areDepths_50 rfl rfl ?_
    refine z_aload_n F dL_areDepths_51 rfl rfl ?_
    refine zi_iconst F dL_areDepths_52 ?_
    refine z_callV F B cal_yX10_columnByDepth (n_columnByDepth ⟨by omega, by omega⟩ (by omega) r0 r1 hO hKK) dL_areDepths_53 rfl rfl (Nat.le_of_ble_eq_true rfl) (by decide) (by decide) (by decide) ml_L_222 im_yX10_columnByDepth se_yX10_columnByDepth r0 (by decide) rfl rfl (fun v hX qX => ?_) (fun C h1 q => q.elim)
    obtain ⟨⟨c1, hc1, -, hf1, rfl⟩, qX⟩ := qX
    rw [qX]; clear qX hX
    rw [show (0 : Int).toNat = 0 from rfl, ha] at hf1
    cases hf1
    refine z_aload_n F dL_areDepths_56 rfl rfl ?_
    refine zi_iconst F dL_areDepths_57 ?_
    refine z_callV F B cal_yX10_rowByDepth (n_rowByDepth ⟨by omega, by omega⟩ (by omega) r0 r1 hO hKK) dL_areDepths_58 rfl rfl (Nat.le_of_ble_eq_true rfl) (by decide) (by decide) (by decide) ml_L_225 im_yX10_rowByDepth se_yX10_rowByDepth r0 (by decide) rfl rfl (fun v hX qX => ?_) (fun C h1 q => q.elim)
    obtain ⟨⟨c2, hc2, -, hf2, rfl⟩, qX⟩ := qX
    rw [qX]; clear qX hX
    rw [show (0 : Int).toNat = 0 from rfl, ha] at hf2
    cases hf2
    refine z_callV F B cal_yX10_depth (n_depth (by omega) r0 r1 hO hKK) dL_areDepths_61 rfl rfl (Nat.le_of_ble_eq_true rfl) (by decide) (by decide) (by decide) ml_L_190 im_yX10_depth se_yX10_depth r0 (by decide) rfl rfl (fun v hX qX => ?_) (fun C h1 q => q.elim)
    obtain ⟨rfl, qX⟩ := qX
    rw [qX]
    clear qX hX
    rw [show (8 * ((a : Int) / 8) + (a : Int) % 8).toNat = a by omega]
    have h9a := hO.1 a
    have h90 := hO.1 0
    refine z_aload_n F dL_areDepths_64 rfl rfl ?_
    refine zi_iconst F dL_areDepths_65 ?_
    refine zi_iconst F dL_areDepths_66 ?_
    refine z_callV F B cal_yX10_depth (n_depth (by omega) r0 r1 hO hKK) dL_areDepths_67 rfl rfl (Nat.le_of_ble_eq_true rfl) (by decide) (by decide) (by decide) ml_L_190 im_yX10_depth se_yX10_depth r0 (by decide) rfl rfl (fun v hX qX => ?_) (fun C h1 q => q.elim)
    obtain ⟨rfl, qX⟩ := qX
    rw [qX]
    clear qX hX
    rw [show (8 * (0 : Int) + 0).toNat = 0 from rfl]
    refine zi_icmp_gt (tgt := 77) F dL_areDepths_70 (by decide) (by first | omega | (dsimp only at *; omega)) (fun c70 => False.elim (by first | omega | (dsimp only at *; omega))) (fun c70 => ?_)
    refine zi_iconst F dL_areDepths_73 ?_
    refine z_goto (tgt := 78) F dL_areDepths_74 (by decide) ?_
    refine z_istore F dL_areDepths_78 rfl (hnl _ rfl) ?_
    refine zi_iconst F dL_areDepths_80 ?_
    refine z_istore F dL_areDepths_81 rfl (hnl _ rfl) ?_
    exact k83 64 0 rfl _ rfl
  have r0 := R.2.1
  obtain ⟨σ, τ, r1⟩ := R.2.2.1
  refine z_aload_n F dL_areDepths_0 rfl rfl ?_
  refine z_callV F B cal_yX10_minute (m_minute r0 r1) dL_areDepths_1 rfl rfl (Nat.le_of_ble_eq_true rfl) (by decide) (by decide) (by decide) ml_L_162 im_yX10_minute se_yX10_minute r0 (by decide) rfl rfl (fun v hX qX => ?_) (fun C h1 q => q.elim)
  obtain ⟨rfl, qX⟩ := qX
  rw [qX]
  clear qX hX
  refine zi_bipush F dL_areDepths_4 (by decide) ?_
  refine zi_irem F dL_areDepths_6 (by omega) ?_
  refine z_istore_n F dL_areDepths_7 rfl rfl (hnl _ rfl) ?_
  refine z_iload_n F dL_areDepths_8 rfl rfl ?_
  refine zi_iconst F dL_areDepths_9 ?_
  refine zi_icmp_lt (tgt := 19) F dL_areDepths_10 (by decide) (by first | omega | (dsimp only at *; omega)) (fun c10 => ?_) (fun c10 => ?_)
  · refine zi_iconst F dL_areDepths_19 ?_
    refine z_goto (tgt := 39) F dL_areDepths_20 (by decide) ?_
    exact Z.keys [0] rfl (k39 _ (by unfold f_tide; (repeat' split) <;> omega))
  · refine z_iload_n F dL_areDepths_13 rfl rfl ?_
    refine zi_bipush F dL_areDepths_14 (by decide) ?_
    refine zi_icmp_le (tgt := 23) F dL_areDepths_16 (by decide) (by first | omega | (dsimp only at *; omega)) (fun c16 => ?_) (fun c16 => ?_)
    · refine z_iload_n F dL_areDepths_23 rfl rfl ?_
      refine zi_iconst F dL_areDepths_24 ?_
      refine zi_icmp_lt (tgt := 34) F dL_areDepths_25 (by decide) (by first | omega | (dsimp only at *; omega)) (fun c25 => ?_) (fun c25 => ?_)
      · refine zi_iconst F dL_areDepths_34 ?_
        refine z_goto (tgt := 39) F dL_areDepths_35 (by decide) ?_
        exact Z.keys [0] rfl (k39 _ (by unfold f_tide; (repeat' split) <;> omega))
      · refine z_iload_n F dL_areDepths_28 rfl rfl ?_
        refine zi_bipush F dL_areDepths_29 (by decide) ?_
        refine zi_icmp_le (tgt := 38) F dL_areDepths_31 (by decide) (by first | omega | (dsimp only at *; omega)) (fun c31 => ?_) (fun c31 => ?_)
        · refine zi_iconst F dL_areDepths_38 ?_
          exact Z.keys [0] rfl (k39 _ (by unfold f_tide; (repeat' split) <;> omega))
        · refine zi_iconst F dL_areDepths_34 ?_
          refine z_goto (tgt := 39) F dL_areDepths_35 (by decide) ?_
          exact Z.keys [0] rfl (k39 _ (by unfold f_tide; (repeat' split) <;> omega))
    · refine zi_iconst F dL_areDepths_19 ?_
      refine z_goto (tgt := 39) F dL_areDepths_20 (by decide) ?_
      exact Z.keys [0] rfl (k39 _ (by unfold f_tide; (repeat' split) <;> omega))
end
