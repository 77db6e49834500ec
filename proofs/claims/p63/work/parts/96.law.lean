/-! the law -/
section
variable {h : zH} {xs : List Int32}
/-- what the law needs of every coast: it is fit -/
def hFits : Prop := ∀ K C, zGd K C → hFit C
theorem zInv.exe {K : Nat} {S : zBt} (I : zInv K S) (r : Int × List (Nat × List Nat)) (hr : r.2.length ≤ 10) (T : Nat → Nat) : zInv (K + 21000) (f_tx (f_exe S r).1 (T, 0)) := ⟨zGS.tx (zGS.exe I.1 r hr) _, rfl⟩
theorem zInv.sh {K : Nat} {S S' : zBt} (I : zInv K S) (s : zSh S S') : zInv K S' := ⟨s.gs I.1, by rw [s.2.2.1]; exact I.2⟩
theorem zInv.undo {K : Nat} {S : zBt} (I : zInv K S) : zInv K (f_undo S) := ⟨I.1.undo, I.2⟩
theorem zInv.save {K : Nat} {S : zBt} (I : zInv K S) : zInv K (f_save S) := ⟨I.1.save, I.2⟩
theorem zInv.rest {K : Nat} {S : zBt} (I : zInv K S) : zInv K (f_rest S) := ⟨I.1.rest, I.2⟩
theorem zInv_0 (T : Nat → Nat) : zInv 0 (f_B0 T) := ⟨⟨zGd_0, zGd_0, fun _ => zGd_0⟩, rfl⟩
theorem fin_sn (S : zBt) (r : zCh) : (f_fin S r).2.1 = S.2.1 := by
  unfold f_fin
  split <;> rfl
set_option maxHeartbeats 8000000 in
theorem law_body {X : zX} {P : Option Value → zH → Prop} {E : String → zH → Prop} (hP : ∀ h', P (some (.int (iI 1))) h') (F : zF zT zN X cL_law RL) (B : zB X 17 20000 120000 (some .boolean) P E) (hnl : zNL X 9) (hR : X.2.2.2.1 = zRm 17 20000 120000) (hA : hFits) (Bs : zRs h) (hs : h[77]? = some (100, xs.map .int)) (hx : xs.length ≤ 260) (hl : h.length = 100) : Z X 0 0 0 (lv_args 0 [.ref 77]) [] h := by
  refine z_ro F (fun q0 => ?_)
  have hN : zNR = 100 := rfl
  have B0 : zRs (zro X) := Bs.cong (fun a q => (q0 a q).symm)
  have s0 : (zro X)[77]? = some (100, xs.map .int) := (q0 77 (by decide)).symm.trans hs
  -- the end
  have k326 : ∀ (C : zCo) (h1 : zH) (ls : zL) (S : zBt), zInv 1180200 S → S.1 = C → S.2.1 = (C, true) → zRB 100 S h1 → zpick ls [6, 4, 3, 1, 0] = [(6, .int (iI (C.2.2.2.1.2 : Int))), (4, .long (f_dig C)), (3, .int (iI 1)), (1, .ref 100), (0, .ref 77)] → Z X 10460 61760 326 ls [] h1 := by
    intro C h1 ls S I eC eN R el
    refine Z.keys [6, 4, 3, 1, 0] el ?_
    refine z_aload_n F dL_law_326 rfl rfl ?_
    refine zi_iconst F dL_law_327 ?_
    refine zi_iconst F dL_law_328 ?_
    refine zi_iconst F dL_law_329 ?_
    refine z_callSH F B calH_yL_addShip (w_addShip ⟨by omega, by omega⟩ ⟨by omega, by omega⟩ ⟨by omega, by omega⟩ R I.1.1.1 (by omega)) dL_law_330 rfl rfl (Nat.le_of_ble_eq_true rfl) (by decide) (by decide) (by decide) ml_L_133 st_yL_addShip (fun v hX qX => ?_) (fun C h1 q => q.elim)
    obtain ⟨rfl, R2⟩ := qX
    have I2 := I.fin (Nat.le_refl _) (g_ls I.1.1 3 3 1)
    have e2 := (fin_sn S (f_ls S.1 3 3 1)).trans eN
    generalize f_fin S (f_ls S.1 3 3 1) = S2 at R2 I2 e2
    have r0 := R2.2.1
    obtain ⟨σ, τ, r1⟩ := R2.2.2.1
    have hcnt := I2.1.1.1.2.2.2.2.1
    refine z_pop F dL_law_333 rfl ?_
    refine z_aload_n F dL_law_334 rfl rfl ?_
    refine z_aload_n F dL_law_335 rfl rfl ?_
    refine z_callV F B cal_yX10_shipCount (m_shipCount r0 r1) dL_law_336 rfl rfl (Nat.le_of_ble_eq_true rfl) (by decide) (by decide) (by decide) ml_L_182 im_yX10_shipCount se_yX10_shipCount r0 (by decide) rfl rfl (fun v hX qX => ?_) (fun C h1 q => q.elim)
    obtain ⟨rfl, qX⟩ := qX
    rw [qX]
    clear qX hX
    refine zi_iconst F dL_law_339 ?_
    refine zi_isub F dL_law_340 ?_
    refine zi_bipush F dL_law_341 (by decide) ?_
    refine zi_bipush F dL_law_343 (by decide) ?_
    refine z_callSH F B calH_yL_steer (w_steer ⟨by omega, by omega⟩ ⟨by omega, by omega⟩ ⟨by omega, by omega⟩ R2 I2.1.1.1 (by omega)) dL_law_345 rfl rfl (Nat.le_of_ble_eq_true rfl) (by decide) (by decide) (by decide) ml_L_135 st_yL_steer (fun v hX qX => ?_) (fun C h1 q => q.elim)
    obtain ⟨rfl, R3⟩ := qX
    have I3 := I2.fin (Nat.le_refl _) (g_cg I2.1.1 ((S2.1.2.2.2.1.2 : Int) - 1) 6 6)
    have e3 := (fin_sn S2 (f_cg S2.1 ((S2.1.2.2.2.1.2 : Int) - 1) 6 6)).trans e2
    generalize f_fin S2 (f_cg S2.1 ((S2.1.2.2.2.1.2 : Int) - 1) 6 6) = S3 at R3 I3 e3
    clear r0 r1 hcnt R2 I2 e2
    refine z_ro F (fun q1 => ?_)
    refine z_pop F dL_law_348 rfl ?_
    refine z_iload_n F dL_law_349 rfl rfl ?_
    refine zi_if_eq (tgt := 364) F dL_law_350 (by decide) (by first | omega | (dsimp only at *; omega)) (fun c350 => False.elim (by first | omega | (dsimp only at *; omega))) (fun c350 => ?_)
    refine z_aload_n F dL_law_353 rfl rfl ?_
    refine z_callS F B cal_yL_isFit (w_isFit (hA _ _ I3.1.1) (B0.cong q1) R3 I3.1.1 (by omega)) dL_law_354 rfl rfl (Nat.le_of_ble_eq_true rfl) (by decide) (by decide) (by decide) ml_L_327 st_yL_isFit (fun v hX qX => ?_) (fun C h1 q => q.elim)
    obtain ⟨rfl, S4, s4, R4⟩ := qX
    have I4 := I3.sh s4
    have e4 := s4.2.1.trans e3
    refine zi_if_eq (tgt := 364) F dL_law_357 (by decide) (by first | omega | (dsimp only at *; omega)) (fun c357 => False.elim (by first | omega | (dsimp only at *; omega))) (fun c357 => ?_)
    refine zi_iconst F dL_law_360 ?_
    refine z_goto (tgt := 365) F dL_law_361 (by decide) ?_
    refine z_istore_n F dL_law_365 rfl rfl (hnl _ rfl) ?_
    refine z_iload_n F dL_law_366 rfl rfl ?_
    refine zi_if_eq (tgt := 409) F dL_law_367 (by decide) (by first | omega | (dsimp only at *; omega)) (fun c367 => False.elim (by first | omega | (dsimp only at *; omega))) (fun c367 => ?_)
    refine z_aload_n F dL_law_370 rfl rfl ?_
    refine z_callSH F B calH_yL_restore (w_restore R4 I4.1.1.1 (by omega)) dL_law_371 rfl rfl (Nat.le_of_ble_eq_true rfl) (by decide) (by decide) (by decide) ml_L_155 st_yL_restore (fun v hX qX => ?_) (fun C h1 q => q.elim)
    rcases qX with ⟨-, rfl, R5⟩ | ⟨e, -⟩
    rotate_left
    · rw [e4] at e
      cases e
    have I5 := I4.rest
    have e5 : (f_rest S4).1 = C := by show S4.2.1.1 = C; rw [e4]
    have u5 : (f_rest S4).2.2.1.2.1 = 0 := rfl
    rw [show S4.2.1.1.2.2.2.1.2 = C.2.2.2.1.2 by rw [e4]]
    have hcnt : C.2.2.2.1.2 ≤ 6 := by have := I5.1.1.1.2.2.2.2.1; rw [e5] at this; exact this
    generalize f_rest S4 = S5 at R5 I5 e5 u5
    refine z_iload F dL_law_374 rfl ?_
    refine zi_icmp_ne (tgt := 409) F dL_law_376 (by decide) (by first | omega | (dsimp only at *; omega)) (fun c376 => False.elim (by first | omega | (dsimp only at *; omega))) (fun c376 => ?_)
    refine z_aload_n F dL_law_379 rfl rfl ?_
    refine z_callS F B cal_yL_digest (w_digest R5 I5.1.1.1 (by omega)) dL_law_380 rfl rfl (Nat.le_of_ble_eq_true rfl) (by decide) (by decide) (by decide) ml_L_300 st_yL_digest (fun v hX qX => ?_) (fun C h1 q => q.elim)
    obtain ⟨rfl, R6⟩ := qX
    rw [e5]
    refine z_lload F dL_law_383 rfl ?_
    refine z_lcmp F dL_law_385 ?_
    rw [lcmp_self]
    refine zi_if_ne (tgt := 409) F dL_law_386 (by decide) (by first | omega | (dsimp only at *; omega)) (fun c386 => False.elim (by first | omega | (dsimp only at *; omega))) (fun c386 => ?_)
    refine z_aload_n F dL_law_389 rfl rfl ?_
    refine z_callSH F B calH_yL_undo (w_undo R6 I5.1.1.1 (by omega)) dL_law_390 rfl rfl (Nat.le_of_ble_eq_true rfl) (by decide) (by decide) (by decide) ml_L_158 st_yL_undo (fun v hX qX => ?_) (fun C h1 q => q.elim)
    rcases qX with ⟨e, -⟩ | ⟨-, rfl, R7⟩
    · omega
    refine z_ldc F dL_law_393 zw_den ?_
    refine zi_icmp_ne (tgt := 409) F dL_law_395 (by decide) (by first | omega | (dsimp only at *; omega)) (fun c395 => False.elim (by first | omega | (dsimp only at *; omega))) (fun c395 => ?_)
    refine z_aload_n F dL_law_398 rfl rfl ?_
    refine z_callV F B cal_yX10_undoCount (m_undoCount R7) dL_law_399 rfl rfl (Nat.le_of_ble_eq_true rfl) (by decide) (by decide) (by decide) ml_L_334 im_yX10_undoCount se_yX10_undoCount R7.2.1 (by decide) rfl rfl (fun v hX qX => ?_) (fun C h1 q => q.elim)
    obtain ⟨rfl, qX⟩ := qX
    rw [qX]
    clear qX hX
    rw [u5]
    refine zi_if_ne (tgt := 409) F dL_law_402 (by decide) (by first | omega | (dsimp only at *; omega)) (fun c402 => False.elim (by first | omega | (dsimp only at *; omega))) (fun c402 => ?_)
    refine zi_iconst F dL_law_405 ?_
    refine z_goto (tgt := 410) F dL_law_406 (by decide) ?_
    exact Z.widen (by decide) (by decide) (z_ireturn F rfl B dL_law_410 (hP _))
  -- text by text
  have k243 : ∀ (C : zCo) (n i : Nat), n + i = 24 → ∀ (h1 : zH) (ls : zL) (S : zBt), zInv (676200 + 21000 * i) S → S.1 = C → S.2.1 = (C, true) → zRB 100 S h1 → zpick ls [7, 6, 4, 3, 1, 0] = [(7, .int (iI (i : Int))), (6, .int (iI (C.2.2.2.1.2 : Int))), (4, .long (f_dig C)), (3, .int (iI 1)), (1, .ref 100), (0, .ref 77)] → Z X (9500 + 40 * i) (56000 + 240 * i) 243 ls [] h1 := by
    intro C n
    induction n with
    | zero =>
      intro i hi h1 ls S I eC eN R el
      have ei : i = 24 := by omega
      subst ei
      refine Z.keys [7, 6, 4, 3, 1, 0] el ?_
      refine z_ro F (fun q1 => ?_)
      have B1 := B0.cong q1
      refine z_iload_n F dL_law_243 rfl rfl ?_
      refine zi_if_eq (tgt := 326) F dL_law_244 (by decide) (by first | omega | (dsimp only at *; omega)) (fun c244 => False.elim (by first | omega | (dsimp only at *; omega))) (fun c244 => ?_)
      refine z_iload F dL_law_247 rfl ?_
      refine z_getstatic F gs_L_141 dL_law_249 ?_
      refine zi_alen F dL_law_252 B1.2.2.2.2.2.1 (by decide) (by decide) (zar_len _ _) ?_
      refine zi_icmp_ge (tgt := 326) F dL_law_253 (by decide) (by first | omega | (dsimp only at *; omega)) (fun c253 => ?_) (fun c253 => False.elim (by first | omega | (dsimp only at *; omega)))
      exact k326 C _ _ S I eC eN R rfl
    | succ n ih =>
      intro i hi h1 ls S I eC eN R el
      have hi24 : i < 24 := by omega
      refine Z.keys [7, 6, 4, 3, 1, 0] el ?_
      refine z_ro F (fun q1 => ?_)
      have B1 := B0.cong q1
      have hp := roTxt_prs i hi24
      have hlen := hp.2.1
      have hsn := exe_snap (S := S) (f_prs (roTxt.getD i []) 10 0 [])
      have hbd := exe_b (S := S) (f_prs (roTxt.getD i []) 10 0 []) hlen
      have hIx := I.exe (f_prs (roTxt.getD i []) 10 0 []) hlen
      have hun := fun x => exe_undo (S := S) (r := f_prs (roTxt.getD i []) 10 0 []) x R.hb.1 R.hb.2 hp.1
      have hdn := exe_dn (S := S) (r := f_prs (roTxt.getD i []) 10 0 []) hp.1
      have hde := exe_den (S := S) (f_prs (roTxt.getD i []) 10 0 [])
      refine z_iload_n F dL_law_243 rfl rfl ?_
      refine zi_if_eq (tgt := 326) F dL_law_244 (by decide) (by first | omega | (dsimp only at *; omega)) (fun c244 => False.elim (by first | omega | (dsimp only at *; omega))) (fun c244 => ?_)
      refine z_iload F dL_law_247 rfl ?_
      refine z_getstatic F gs_L_141 dL_law_249 ?_
      refine zi_alen F dL_law_252 B1.2.2.2.2.2.1 (by decide) (by decide) (zar_len _ _) ?_
      refine zi_icmp_ge (tgt := 326) F dL_law_253 (by decide) (by first | omega | (dsimp only at *; omega)) (fun c253 => False.elim (by first | omega | (dsimp only at *; omega))) (fun c253 => ?_)
      refine z_aload_n F dL_law_256 rfl rfl ?_
      refine z_getstatic F gs_L_141 dL_law_257 ?_
      refine z_iload F dL_law_260 rfl ?_
      refine zi_aaload (i := i) F dL_law_262 B1.2.2.2.2.2.1 (by decide) (by decide) rfl rfl (by omega) (zar_get (by omega)) rfl ?_
      refine z_callS F B cal_yL_typed (w_typed hi24 B1 I R) dL_law_263 rfl rfl (Nat.le_of_ble_eq_true rfl) (by decide) (by omega) (by omega) ml_L_145 st_yL_typed (fun v hX qX => ?_) (fun C h1 q => q.elim)
      obtain ⟨rfl, R2⟩ := qX
      refine z_ro F (fun q2 => ?_)
      have B2 := B0.cong q2
      refine z_callSH F B calH_yL_execute (v_execute hi24 B2 I R2 (by omega)) dL_law_266 rfl rfl (Nat.le_of_ble_eq_true rfl) (by decide) (by omega) (by omega) ml_L_149 st_yL_execute (fun v hX qX => ?_) (fun C h1 q => q.elim)
      obtain ⟨rfl, T', R3⟩ := qX
      have I3 := hIx T'
      have hu3 := hun (T', 0)
      clear R2 hIx hun q2 B2
      generalize eS3 : f_tx (f_exe S (f_prs (roTxt.getD i []) 10 0 [])).1 (T', 0) = S3 at R3 I3 hu3
      have e3 : S3.2.1 = (C, true) := by rw [← eS3]; exact hsn.trans eN
      have hb3 := R3.hb
      by_cases q : (f_exe S (f_prs (roTxt.getD i []) 10 0 [])).2 = -100000000
      · have d1 : S3.2.2.2.2.2.1 = 8 := by rw [← eS3]; exact (hdn q).1
        have d2 : 1 ≤ S3.2.2.2.2.2.2.2 ∧ S3.2.2.2.2.2.2.2 ≤ 9 := by rw [← eS3]; exact (hdn q).2
        have d3 : S3.1 = C := by rw [← eS3]; exact (hde q).trans eC
        rw [q]
        refine z_istore F dL_law_269 rfl (hnl _ rfl) ?_
        refine z_iload F dL_law_271 rfl ?_
        refine z_ldc F dL_law_273 zw_den ?_
        refine zi_icmp_ne (tgt := 297) F dL_law_275 (by decide) (by first | omega | (dsimp only at *; omega)) (fun c275 => False.elim (by first | omega | (dsimp only at *; omega))) (fun c275 => ?_)
        refine z_aload_n F dL_law_278 rfl rfl ?_
        refine z_callSH F B calH_yL_denial (w_denial R3 I3.1.1.1 (by omega) ⟨by omega, by omega⟩) dL_law_279 rfl rfl (Nat.le_of_ble_eq_true rfl) (by decide) (by omega) (by omega) ml_L_330 st_yL_denial (fun v hX qX => ?_) (fun C h1 q => q.elim)
        obtain ⟨rfl, R4⟩ := qX
        rw [d1, if_neg (by decide)]
        refine zi_bipush F dL_law_282 (by decide) ?_
        refine zi_icmp_ne (tgt := 318) F dL_law_284 (by decide) (by first | omega | (dsimp only at *; omega)) (fun c284 => False.elim (by first | omega | (dsimp only at *; omega))) (fun c284 => ?_)
        refine z_aload_n F dL_law_287 rfl rfl ?_
        refine z_callSH F B calH_yL_denialCause (w_denialCause R4 I3.1.1.1 (by omega) ⟨by omega, by omega⟩) dL_law_288 rfl rfl (Nat.le_of_ble_eq_true rfl) (by decide) (by omega) (by omega) ml_L_332 st_yL_denialCause (fun v hX qX => ?_) (fun C h1 q => q.elim)
        obtain ⟨rfl, R5⟩ := qX
        rw [if_neg (show ¬ S3.2.2.2.2.2.2.2 = 0 by omega)]
        refine zi_if_le (tgt := 318) F dL_law_291 (by decide) (by first | omega | (dsimp only at *; omega)) (fun c291 => False.elim (by first | omega | (dsimp only at *; omega))) (fun c291 => ?_)
        refine z_goto (tgt := 304) F dL_law_294 (by decide) ?_
        refine z_aload_n F dL_law_304 rfl rfl ?_
        refine z_callS F B cal_yL_digest (w_digest R5 I3.1.1.1 (by omega)) dL_law_305 rfl rfl (Nat.le_of_ble_eq_true rfl) (by decide) (by omega) (by omega) ml_L_300 st_yL_digest (fun v hX qX => ?_) (fun C h1 q => q.elim)
        obtain ⟨rfl, R6⟩ := qX
        rw [d3]
        refine z_lload F dL_law_308 rfl ?_
        refine z_lcmp F dL_law_310 ?_
        rw [lcmp_self]
        refine zi_if_ne (tgt := 318) F dL_law_311 (by decide) (by first | omega | (dsimp only at *; omega)) (fun c311 => False.elim (by first | omega | (dsimp only at *; omega))) (fun c311 => ?_)
        refine zi_iconst F dL_law_314 ?_
        refine z_goto (tgt := 319) F dL_law_315 (by decide) ?_
        refine z_istore_n F dL_law_319 rfl rfl (hnl _ rfl) ?_
        refine zi_iinc F dL_law_320 rfl rfl (hnl _ rfl) ?_
        refine z_goto (tgt := 243) F dL_law_323 (by decide) ?_
        exact Z.widen (by omega) (by omega) (ih (i + 1) (by omega) _ _ S3 (I3.mono (by omega)) d3 e3 R6 rfl)
      · have hu := hu3 q
        unfold zI32 at hbd
        have uc : (f_undo S3).1 = C := hu.2.trans eC
        have I4 := I3.undo
        refine z_istore F dL_law_269 rfl (hnl _ rfl) ?_
        refine z_iload F dL_law_271 rfl ?_
        refine z_ldc F dL_law_273 zw_den ?_
        refine zi_icmp_ne (tgt := 297) F dL_law_275 (by decide) (by first | omega | (dsimp only at *; omega)) (fun c275 => ?_) (fun c275 => False.elim (by first | omega | (dsimp only at *; omega)))
        refine z_aload_n F dL_law_297 rfl rfl ?_
        refine z_callSH F B calH_yL_undo (w_undo R3 I3.1.1.1 (by omega)) dL_law_298 rfl rfl (Nat.le_of_ble_eq_true rfl) (by decide) (by omega) (by omega) ml_L_158 st_yL_undo (fun v hX qX => ?_) (fun C h1 q => q.elim)
        rcases qX with ⟨-, rfl, R4⟩ | ⟨e, -⟩
        rotate_left
        · exact absurd e (Nat.ne_of_gt hu.1)
        refine zi_if_lt (tgt := 318) F dL_law_301 (by decide) (by first | omega | (dsimp only at *; omega)) (fun c301 => False.elim (by first | omega | (dsimp only at *; omega))) (fun c301 => ?_)
        refine z_aload_n F dL_law_304 rfl rfl ?_
        refine z_callS F B cal_yL_digest (w_digest R4 I4.1.1.1 (by omega)) dL_law_305 rfl rfl (Nat.le_of_ble_eq_true rfl) (by decide) (by omega) (by omega) ml_L_300 st_yL_digest (fun v hX qX => ?_) (fun C h1 q => q.elim)
        obtain ⟨rfl, R6⟩ := qX
        rw [uc]
        refine z_lload F dL_law_308 rfl ?_
        refine z_lcmp F dL_law_310 ?_
        rw [lcmp_self]
        refine zi_if_ne (tgt := 318) F dL_law_311 (by decide) (by first | omega | (dsimp only at *; omega)) (fun c311 => False.elim (by first | omega | (dsimp only at *; omega))) (fun c311 => ?_)
        refine zi_iconst F dL_law_314 ?_
        refine z_goto (tgt := 319) F dL_law_315 (by decide) ?_
        refine z_istore_n F dL_law_319 rfl rfl (hnl _ rfl) ?_
        refine zi_iinc F dL_law_320 rfl rfl (hnl _ rfl) ?_
        refine z_goto (tgt := 243) F dL_law_323 (by decide) ?_
        exact Z.widen (by omega) (by omega) (ih (i + 1) (by omega) _ _ (f_undo S3) (I4.mono (by omega)) uc e3 R6 rfl)
  -- the look at the whole, the snapshot
  have k218 : ∀ (h1 : zH) (ls : zL) (S : zBt), zInv 655200 S → zRB 100 S h1 → zpick ls [1, 0] = [(1, .ref 100), (0, .ref 77)] → Z X 2100 13200 218 ls [] h1 := by
    intro h1 ls S I R el
    refine Z.keys [1, 0] el ?_
    refine z_ro F (fun q1 => ?_)
    refine z_aload_n F dL_law_218 rfl rfl ?_
    refine z_callS F B cal_yL_isFit (w_isFit (hA _ _ I.1.1) (B0.cong q1) R I.1.1 (by omega)) dL_law_219 rfl rfl (Nat.le_of_ble_eq_true rfl) (by decide) (by decide) (by decide) ml_L_327 st_yL_isFit (fun v hX qX => ?_) (fun C h1 q => q.elim)
    obtain ⟨rfl, S2, s2, R2⟩ := qX
    have I2 := I.sh s2
    refine z_ro F (fun q2 => ?_)
    refine z_istore_n F dL_law_222 rfl rfl (hnl _ rfl) ?_
    refine z_aload_n F dL_law_223 rfl rfl ?_
    refine z_callSH F B calH_yL_execute (w_execute (K := 655200) (S := S2) (tx := []) (G := zGd) nil_prs ⟨by decide, fun i hi => absurd hi (Nat.not_lt_zero _)⟩ ⟨by decide, by decide⟩ (B0.cong q2) ⟨by decide, fun i hi => absurd hi (Nat.not_lt_zero _)⟩ I2.2 R2 I2.1.1 (fun n C g => g.1) g_perf (by omega)) dL_law_224 rfl rfl (Nat.le_of_ble_eq_true rfl) (by decide) (by decide) (by decide) ml_L_149 st_yL_execute (fun v hX qX => ?_) (fun C h1 q => q.elim)
    obtain ⟨rfl, T', R3⟩ := qX
    have I3 := I2.exe (0, []) (by decide) T'
    generalize f_tx (f_exe S2 (0, [])).1 (T', 0) = S3 at R3 I3
    refine z_pop F dL_law_227 rfl ?_
    refine z_aload_n F dL_law_228 rfl rfl ?_
    refine z_callS F B cal_yL_digest (w_digest R3 I3.1.1.1 (by omega)) dL_law_229 rfl rfl (Nat.le_of_ble_eq_true rfl) (by decide) (by decide) (by decide) ml_L_300 st_yL_digest (fun v hX qX => ?_) (fun C h1 q => q.elim)
    obtain ⟨rfl, R4⟩ := qX
    refine z_lstore F dL_law_232 rfl rfl (hnl _ rfl) ?_
    refine z_aload_n F dL_law_234 rfl rfl ?_
    refine z_callV F B cal_yX10_saveSnapshot (m_saveSnapshot R4) dL_law_235 rfl rfl (Nat.le_of_ble_eq_true rfl) (by decide) (by decide) (by decide) ml_L_152 im_yX10_saveSnapshot se_yX10_saveSnapshot R4.2.1 (by decide) rfl rfl (fun v hX qX => ?_) (fun C h1 q => q.elim)
    obtain ⟨rfl, R5⟩ := qX
    refine z_istore F dL_law_238 rfl (hnl _ rfl) ?_
    refine zi_iconst F dL_law_240 ?_
    refine z_istore F dL_law_241 rfl (hnl _ rfl) ?_
    exact Z.widen (by omega) (by omega) (k243 S3.1 24 0 rfl _ _ (f_save S3) (I3.save.mono (by omega)) rfl rfl R5 rfl)
  -- act by act
  have k175 : ∀ m : Nat, m ≤ 30 → ∀ n i : Nat, n + i = m → ∀ (h1 : zH) (ls : zL) (S : zBt), zInv (25200 + 21000 * i) S → zRB 100 S h1 → zpick ls [3, 2, 1, 0] = [(3, .int (iI (i : Int))), (2, .int (iI (m : Int))), (1, .ref 100), (0, .ref 77)] → Z X (240 + 60 * i) (2300 + 360 * i) 175 ls [] h1 := by
    intro m hm n
    induction n with
    | zero =>
      intro i hi h1 ls S I R el
      have ei : i = m := by omega
      subst ei
      refine Z.keys [3, 2, 1, 0] el ?_
      refine z_iload_n F dL_law_175 rfl rfl ?_
      refine z_iload_n F dL_law_176 rfl rfl ?_
      refine zi_icmp_ge (tgt := 218) F dL_law_177 (by decide) (by first | omega | (dsimp only at *; omega)) (fun c177 => ?_) (fun c177 => False.elim (by first | omega | (dsimp only at *; omega)))
      exact Z.widen (by omega) (by omega) (k218 _ _ S (I.mono (by omega)) R rfl)
    | succ n ih =>
      intro i hi h1 ls S I R el
      refine Z.keys [3, 2, 1, 0] el ?_
      refine z_iload_n F dL_law_175 rfl rfl ?_
      refine z_iload_n F dL_law_176 rfl rfl ?_
      refine zi_icmp_ge (tgt := 218) F dL_law_177 (by decide) (by first | omega | (dsimp only at *; omega)) (fun c177 => False.elim (by first | omega | (dsimp only at *; omega))) (fun c177 => ?_)
      refine z_aload_n F dL_law_180 rfl rfl ?_
      refine z_callS F B cal_yL_digest (w_digest R I.1.1.1 (by omega)) dL_law_181 rfl rfl (Nat.le_of_ble_eq_true rfl) (by decide) (by omega) (by omega) ml_L_300 st_yL_digest (fun v hX qX => ?_) (fun C h1 q => q.elim)
      obtain ⟨rfl, R2⟩ := qX
      refine z_ro F (fun q1 => ?_)
      have s1 := (q1 77 (by decide)).trans s0
      refine z_lstore F dL_law_184 rfl rfl (hnl _ rfl) ?_
      refine z_aload_n F dL_law_186 rfl rfl ?_
      refine z_aload_n F dL_law_187 rfl rfl ?_
      refine z_iload_n F dL_law_188 rfl rfl ?_
      refine z_callS F B cal_yL_cell (m_cell s1 hx (by omega)) dL_law_189 rfl rfl (Nat.le_of_ble_eq_true rfl) (by decide) (by omega) (by omega) ml_L_320 st_yL_cell (fun v hX qX => ?_) (fun C h1 q => q.elim)
      obtain ⟨⟨x, rfl⟩, rfl⟩ := qX
      refine z_callS F B cal_yL_act (w_act (B0.cong q1) I R2 (by omega)) dL_law_192 rfl rfl (Nat.le_of_ble_eq_true rfl) (by decide) (by omega) (by omega) ml_L_324 st_yL_act (fun v hX qX => ?_) (fun C h1 q => q.elim)
      obtain ⟨a, S2, rfl, ha, I2, R3, hd⟩ := qX
      unfold zI32 at ha
      refine z_ldc F dL_law_195 zw_den ?_
      refine zi_icmp_ne (tgt := 212) F dL_law_197 (by decide) (by first | omega | (dsimp only at *; omega)) (fun c197 => ?_) (fun c197 => ?_)
      · refine zi_iinc F dL_law_212 rfl rfl (hnl _ rfl) ?_
        refine z_goto (tgt := 175) F dL_law_215 (by decide) ?_
        exact Z.widen (by omega) (by omega) (ih (i + 1) (by omega) _ _ S2 (I2.mono (by omega)) (by assumption) rfl)
      · refine z_aload_n F dL_law_200 rfl rfl ?_
        refine z_callS F B cal_yL_digest (w_digest R3 I2.1.1.1 (by omega)) dL_law_201 rfl rfl (Nat.le_of_ble_eq_true rfl) (by decide) (by omega) (by omega) ml_L_300 st_yL_digest (fun v hX qX => ?_) (fun C h1 q => q.elim)
        obtain ⟨rfl, R4⟩ := qX
        refine z_lload F dL_law_204 rfl ?_
        refine z_lcmp F dL_law_206 ?_
        rw [hd (by omega), lcmp_self]
        refine zi_if_eq (tgt := 212) F dL_law_207 (by decide) (by first | omega | (dsimp only at *; omega)) (fun c207 => ?_) (fun c207 => False.elim (by first | omega | (dsimp only at *; omega)))
        refine zi_iinc F dL_law_212 rfl rfl (hnl _ rfl) ?_
        refine z_goto (tgt := 175) F dL_law_215 (by decide) ?_
        exact Z.widen (by omega) (by omega) (ih (i + 1) (by omega) _ _ S2 (I2.mono (by omega)) (by assumption) rfl)
  have k158 : ∀ (h1 : zH) (ls : zL) (S : zBt), zInv 0 S → zRB 100 S h1 → zpick ls [1, 0] = [(1, .ref 100), (0, .ref 77)] → Z X 240 2300 158 ls [] h1 := by
    intro h1 ls S I R el
    refine Z.keys [1, 0] el ?_
    refine z_ro F (fun q1 => ?_)
    have s1 := (q1 77 (by decide)).trans s0
    by_cases c30 : 30 ≤ xs.length
    · refine z_aload_n F dL_law_158 rfl rfl ?_
      refine zi_alen F dL_law_159 s1 (by decide) (by decide) (List.length_map _) ?_
      refine zi_bipush F dL_law_160 (by decide) ?_
      refine zi_icmp_ge (tgt := 170) F dL_law_162 (by decide) (by first | omega | (dsimp only at *; omega)) (fun c162 => ?_) (fun c162 => False.elim (by first | omega | (dsimp only at *; omega)))
      refine zi_bipush F dL_law_170 (by decide) ?_
      refine z_istore_n F dL_law_172 rfl rfl (hnl _ rfl) ?_
      refine zi_iconst F dL_law_173 ?_
      refine z_istore_n F dL_law_174 rfl rfl (hnl _ rfl) ?_
      exact k175 30 (Nat.le_refl _) 30 0 rfl _ _ S (I.mono (by omega)) R rfl
    · refine z_aload_n F dL_law_158 rfl rfl ?_
      refine zi_alen F dL_law_159 s1 (by decide) (by decide) (List.length_map _) ?_
      refine zi_bipush F dL_law_160 (by decide) ?_
      refine zi_icmp_ge (tgt := 170) F dL_law_162 (by decide) (by first | omega | (dsimp only at *; omega)) (fun c162 => False.elim (by first | omega | (dsimp only at *; omega))) (fun c162 => ?_)
      refine z_aload_n F dL_law_165 rfl rfl ?_
      refine zi_alen F dL_law_166 s1 (by decide) (by decide) (List.length_map _) ?_
      refine z_goto (tgt := 172) F dL_law_167 (by decide) ?_
      refine z_istore_n F dL_law_172 rfl rfl (hnl _ rfl) ?_
      refine zi_iconst F dL_law_173 ?_
      refine z_istore_n F dL_law_174 rfl rfl (hnl _ rfl) ?_
      exact k175 xs.length (by omega) xs.length 0 rfl _ _ S (I.mono (by omega)) R rfl
  -- the chart is set out
  have k10 : ∀ n i : Nat, n + i = 3 → ∀ (h1 : zH) (ls : zL) (S : zBt), zInv 0 S → zRB 100 S h1 → zpick ls [2, 1, 0] = [(2, .int (iI (i : Int))), (1, .ref 100), (0, .ref 77)] → Z X (220 + 4 * i) (2200 + 24 * i) 10 ls [] h1 := by
    intro n
    induction n with
    | zero =>
      intro i hi h1 ls S I R el
      have ei : i = 3 := by omega
      subst ei
      refine Z.keys [2, 1, 0] el ?_
      refine z_iload_n F dL_law_10 rfl rfl ?_
      refine zi_iconst F dL_law_11 ?_
      refine zi_icmp_ge (tgt := 158) F dL_law_12 (by decide) (by first | omega | (dsimp only at *; omega)) (fun c12 => ?_) (fun c12 => False.elim (by first | omega | (dsimp only at *; omega)))
      exact Z.widen (by omega) (by omega) (k158 _ _ S I R rfl)
    | succ n ih =>
      intro i hi h1 ls S I R el
      refine Z.keys [2, 1, 0] el ?_
      refine z_ro F (fun q1 => ?_)
      have s1 := (q1 77 (by decide)).trans s0
      refine z_iload_n F dL_law_10 rfl rfl ?_
      refine zi_iconst F dL_law_11 ?_
      refine zi_icmp_ge (tgt := 158) F dL_law_12 (by decide) (by first | omega | (dsimp only at *; omega)) (fun c12 => False.elim (by first | omega | (dsimp only at *; omega))) (fun c12 => ?_)
      refine z_aload_n F dL_law_15 rfl rfl ?_
      refine z_aload_n F dL_law_16 rfl rfl ?_
      refine z_iload_n F dL_law_17 rfl rfl ?_
      refine z_callS F B cal_yL_cell (m_cell s1 hx (by omega)) dL_law_18 rfl rfl (Nat.le_of_ble_eq_true rfl) (by decide) (by omega) (by omega) ml_L_320 st_yL_cell (fun v hX qX => ?_) (fun C h1 q => q.elim)
      obtain ⟨⟨x, rfl⟩, rfl⟩ := qX
      refine zi_iconst F dL_law_21 ?_
      refine z_ishr F dL_law_22 ?_
      refine zi_bipush F dL_law_23 (by decide) ?_
      refine z_iand F dL_law_25 ?_
      obtain ⟨a1, l1, e1⟩ := and_ex (x >>> (iI 4 &&& 31)) (m := 7) (by decide)
      rw [show x >>> (iI 4 &&& 31) &&& iI 7 = iI (a1 : Int) from e1]
      refine z_aload_n F dL_law_26 rfl rfl ?_
      refine z_iload_n F dL_law_27 rfl rfl ?_
      refine z_callS F B cal_yL_cell (m_cell s1 hx (by omega)) dL_law_28 rfl rfl (Nat.le_of_ble_eq_true rfl) (by decide) (by omega) (by omega) ml_L_320 st_yL_cell (fun v hX qX => ?_) (fun C h1 q => q.elim)
      obtain ⟨⟨x, rfl⟩, rfl⟩ := qX
      refine zi_bipush F dL_law_31 (by decide) ?_
      refine z_ishr F dL_law_33 ?_
      refine zi_bipush F dL_law_34 (by decide) ?_
      refine z_iand F dL_law_36 ?_
      obtain ⟨a2, l2, e2⟩ := and_ex (x >>> (iI 7 &&& 31)) (m := 7) (by decide)
      rw [show x >>> (iI 7 &&& 31) &&& iI 7 = iI (a2 : Int) from e2]
      refine z_aload_n F dL_law_37 rfl rfl ?_
      refine z_iload_n F dL_law_38 rfl rfl ?_
      refine z_callS F B cal_yL_cell (m_cell s1 hx (by omega)) dL_law_39 rfl rfl (Nat.le_of_ble_eq_true rfl) (by decide) (by omega) (by omega) ml_L_320 st_yL_cell (fun v hX qX => ?_) (fun C h1 q => q.elim)
      obtain ⟨⟨x, rfl⟩, rfl⟩ := qX
      refine zi_iconst F dL_law_42 ?_
      refine z_ishr F dL_law_43 ?_
      refine zi_iconst F dL_law_44 ?_
      refine z_iand F dL_law_45 ?_
      obtain ⟨a3, l3, e3⟩ := and_ex (x >>> (iI 5 &&& 31)) (m := 1) (by decide)
      rw [show x >>> (iI 5 &&& 31) &&& iI 1 = iI (a3 : Int) from e3]
      refine z_callSH F B calH_yL_setDepth (w_setDepth ⟨by omega, by omega⟩ ⟨by omega, by omega⟩ ⟨by omega, by omega⟩ R I.1.1.1 (by omega)) dL_law_46 rfl rfl (Nat.le_of_ble_eq_true rfl) (by decide) (by omega) (by omega) ml_L_121 st_yL_setDepth (fun v hX qX => ?_) (fun C h1 q => q.elim)
      obtain ⟨rfl, R2⟩ := qX
      have I2 := I.fin (Nat.le_refl _) (g_cd I.1.1 a1 a2 a3)
      generalize f_fin S (f_cd S.1 a1 a2 a3) = S2 at R2 I2
      clear e1 e2 e3 l1 l2 l3 s1 q1
      refine z_ro F (fun q1 => ?_)
      have s1 := (q1 77 (by decide)).trans s0
      refine z_pop F dL_law_49 rfl ?_
      refine z_aload_n F dL_law_50 rfl rfl ?_
      refine z_aload_n F dL_law_51 rfl rfl ?_
      refine z_iload_n F dL_law_52 rfl rfl ?_
      refine z_callS F B cal_yL_cell (m_cell s1 hx (by omega)) dL_law_53 rfl rfl (Nat.le_of_ble_eq_true rfl) (by decide) (by omega) (by omega) ml_L_320 st_yL_cell (fun v hX qX => ?_) (fun C h1 q => q.elim)
      obtain ⟨⟨x, rfl⟩, rfl⟩ := qX
      refine zi_iconst F dL_law_56 ?_
      refine z_ishr F dL_law_57 ?_
      refine zi_bipush F dL_law_58 (by decide) ?_
      refine z_iand F dL_law_60 ?_
      obtain ⟨a1, l1, e1⟩ := and_ex (x >>> (iI 3 &&& 31)) (m := 7) (by decide)
      rw [show x >>> (iI 3 &&& 31) &&& iI 7 = iI (a1 : Int) from e1]
      refine z_aload_n F dL_law_61 rfl rfl ?_
      refine z_iload_n F dL_law_62 rfl rfl ?_
      refine z_callS F B cal_yL_cell (m_cell s1 hx (by omega)) dL_law_63 rfl rfl (Nat.le_of_ble_eq_true rfl) (by decide) (by omega) (by omega) ml_L_320 st_yL_cell (fun v hX qX => ?_) (fun C h1 q => q.elim)
      obtain ⟨⟨x, rfl⟩, rfl⟩ := qX
      refine zi_bipush F dL_law_66 (by decide) ?_
      refine z_ishr F dL_law_68 ?_
      refine zi_bipush F dL_law_69 (by decide) ?_
      refine z_iand F dL_law_71 ?_
      obtain ⟨a2, l2, e2⟩ := and_ex (x >>> (iI 6 &&& 31)) (m := 7) (by decide)
      rw [show x >>> (iI 6 &&& 31) &&& iI 7 = iI (a2 : Int) from e2]
      refine zi_iconst F dL_law_72 ?_
      refine z_iload_n F dL_law_73 rfl rfl ?_
      refine zi_iadd F dL_law_74 ?_
      refine zi_bipush F dL_law_75 (by decide) ?_
      refine z_aload_n F dL_law_77 rfl rfl ?_
      refine z_iload_n F dL_law_78 rfl rfl ?_
      refine z_callS F B cal_yL_cell (m_cell s1 hx (by omega)) dL_law_79 rfl rfl (Nat.le_of_ble_eq_true rfl) (by decide) (by omega) (by omega) ml_L_320 st_yL_cell (fun v hX qX => ?_) (fun C h1 q => q.elim)
      obtain ⟨⟨x, rfl⟩, rfl⟩ := qX
      refine zi_iconst F dL_law_82 ?_
      refine z_ishr F dL_law_83 ?_
      refine zi_bipush F dL_law_84 (by decide) ?_
      refine z_iand F dL_law_86 ?_
      obtain ⟨a3, l3, e3⟩ := and_ex (x >>> (iI 5 &&& 31)) (m := 15) (by decide)
      rw [show x >>> (iI 5 &&& 31) &&& iI 15 = iI (a3 : Int) from e3]
      refine zi_iadd F dL_law_87 ?_
      refine z_callSH F B calH_yL_addLight (w_addLight ⟨by omega, by omega⟩ ⟨by omega, by omega⟩ ⟨by omega, by omega⟩ ⟨by omega, by omega⟩ R2 I2.1.1.1 (by omega)) dL_law_88 rfl rfl (Nat.le_of_ble_eq_true rfl) (by decide) (by omega) (by omega) ml_L_124 st_yL_addLight (fun v hX qX => ?_) (fun C h1 q => q.elim)
      obtain ⟨rfl, R3⟩ := qX
      have I3 := I2.fin (Nat.le_refl _) (g_pl I2.1.1 a1 a2 (2 + (i : Int)) (8 + (a3 : Int)))
      generalize f_fin S2 (f_pl S2.1 a1 a2 (2 + (i : Int)) (8 + (a3 : Int))) = S3 at R3 I3
      clear e1 e2 e3 l1 l2 l3 s1 q1 R2 I2
      refine z_ro F (fun q1 => ?_)
      have s1 := (q1 77 (by decide)).trans s0
      refine z_pop F dL_law_91 rfl ?_
      refine z_aload_n F dL_law_92 rfl rfl ?_
      refine z_aload_n F dL_law_93 rfl rfl ?_
      refine z_iload_n F dL_law_94 rfl rfl ?_
      refine z_callS F B cal_yL_cell (m_cell s1 hx (by omega)) dL_law_95 rfl rfl (Nat.le_of_ble_eq_true rfl) (by decide) (by omega) (by omega) ml_L_320 st_yL_cell (fun v hX qX => ?_) (fun C h1 q => q.elim)
      obtain ⟨⟨x, rfl⟩, rfl⟩ := qX
      refine zi_bipush F dL_law_98 (by decide) ?_
      refine z_ishr F dL_law_100 ?_
      refine zi_bipush F dL_law_101 (by decide) ?_
      refine z_iand F dL_law_103 ?_
      obtain ⟨a1, l1, e1⟩ := and_ex (x >>> (iI 8 &&& 31)) (m := 7) (by decide)
      rw [show x >>> (iI 8 &&& 31) &&& iI 7 = iI (a1 : Int) from e1]
      refine z_aload_n F dL_law_104 rfl rfl ?_
      refine z_iload_n F dL_law_105 rfl rfl ?_
      refine z_callS F B cal_yL_cell (m_cell s1 hx (by omega)) dL_law_106 rfl rfl (Nat.le_of_ble_eq_true rfl) (by decide) (by omega) (by omega) ml_L_320 st_yL_cell (fun v hX qX => ?_) (fun C h1 q => q.elim)
      obtain ⟨⟨x, rfl⟩, rfl⟩ := qX
      refine zi_iconst F dL_law_109 ?_
      refine z_ishr F dL_law_110 ?_
      refine zi_bipush F dL_law_111 (by decide) ?_
      refine z_iand F dL_law_113 ?_
      obtain ⟨a2, l2, e2⟩ := and_ex (x >>> (iI 2 &&& 31)) (m := 7) (by decide)
      rw [show x >>> (iI 2 &&& 31) &&& iI 7 = iI (a2 : Int) from e2]
      refine zi_iconst F dL_law_114 ?_
      refine z_iload_n F dL_law_115 rfl rfl ?_
      refine zi_iadd F dL_law_116 ?_
      refine z_callSH F B calH_yL_addShip (w_addShip ⟨by omega, by omega⟩ ⟨by omega, by omega⟩ ⟨by omega, by omega⟩ R3 I3.1.1.1 (by omega)) dL_law_117 rfl rfl (Nat.le_of_ble_eq_true rfl) (by decide) (by omega) (by omega) ml_L_133 st_yL_addShip (fun v hX qX => ?_) (fun C h1 q => q.elim)
      obtain ⟨rfl, R4⟩ := qX
      have I4 := I3.fin (Nat.le_refl _) (g_ls I3.1.1 a1 a2 (1 + (i : Int)))
      generalize f_fin S3 (f_ls S3.1 a1 a2 (1 + (i : Int))) = S4 at R4 I4
      clear e1 e2 l1 l2 s1 q1 R3 I3
      refine z_ro F (fun q1 => ?_)
      have s1 := (q1 77 (by decide)).trans s0
      refine z_pop F dL_law_120 rfl ?_
      refine z_aload_n F dL_law_121 rfl rfl ?_
      refine z_iload_n F dL_law_122 rfl rfl ?_
      refine z_aload_n F dL_law_123 rfl rfl ?_
      refine z_iload_n F dL_law_124 rfl rfl ?_
      refine zi_iconst F dL_law_125 ?_
      refine zi_iadd F dL_law_126 ?_
      rw [show ((i : Int) + 1) = ((i + 1 : Nat) : Int) from rfl]
      refine z_callS F B cal_yL_cell (m_cell s1 hx (by omega)) dL_law_127 rfl rfl (Nat.le_of_ble_eq_true rfl) (by decide) (by omega) (by omega) ml_L_320 st_yL_cell (fun v hX qX => ?_) (fun C h1 q => q.elim)
      obtain ⟨⟨x, rfl⟩, rfl⟩ := qX
      refine zi_iconst F dL_law_130 ?_
      refine z_ishr F dL_law_131 ?_
      refine zi_bipush F dL_law_132 (by decide) ?_
      refine z_iand F dL_law_134 ?_
      obtain ⟨a1, l1, e1⟩ := and_ex (x >>> (iI 3 &&& 31)) (m := 7) (by decide)
      rw [show x >>> (iI 3 &&& 31) &&& iI 7 = iI (a1 : Int) from e1]
      refine z_aload_n F dL_law_135 rfl rfl ?_
      refine z_iload_n F dL_law_136 rfl rfl ?_
      refine zi_iconst F dL_law_137 ?_
      refine zi_iadd F dL_law_138 ?_
      rw [show ((i : Int) + 1) = ((i + 1 : Nat) : Int) from rfl]
      refine z_callS F B cal_yL_cell (m_cell s1 hx (by omega)) dL_law_139 rfl rfl (Nat.le_of_ble_eq_true rfl) (by decide) (by omega) (by omega) ml_L_320 st_yL_cell (fun v hX qX => ?_) (fun C h1 q => q.elim)
      obtain ⟨⟨x, rfl⟩, rfl⟩ := qX
      refine zi_bipush F dL_law_142 (by decide) ?_
      refine z_ishr F dL_law_144 ?_
      refine zi_bipush F dL_law_145 (by decide) ?_
      refine z_iand F dL_law_147 ?_
      obtain ⟨a2, l2, e2⟩ := and_ex (x >>> (iI 6 &&& 31)) (m := 7) (by decide)
      rw [show x >>> (iI 6 &&& 31) &&& iI 7 = iI (a2 : Int) from e2]
      refine z_callSH F B calH_yL_steer (w_steer ⟨by omega, by omega⟩ ⟨by omega, by omega⟩ ⟨by omega, by omega⟩ R4 I4.1.1.1 (by omega)) dL_law_148 rfl rfl (Nat.le_of_ble_eq_true rfl) (by decide) (by omega) (by omega) ml_L_135 st_yL_steer (fun v hX qX => ?_) (fun C h1 q => q.elim)
      obtain ⟨rfl, R5⟩ := qX
      have I5 := I4.fin (Nat.le_refl _) (g_cg I4.1.1 i a1 a2)
      refine z_pop F dL_law_151 rfl ?_
      refine zi_iinc F dL_law_152 rfl rfl (hnl _ rfl) ?_
      refine z_goto (tgt := 10) F dL_law_155 (by decide) ?_
      exact Z.widen (by omega) (by omega) (ih (i + 1) (by omega) _ _ _ I5 R5 rfl)
  refine zi_newW (a := 100) F nw_L_12 dL_law_0 fg_X10 hl (w := 13) rfl (by rw [hR]; show _ ≤ 20000; omega) (by rw [hR]; show _ ≤ 120000; omega) ?_
  refine z_dup F dL_law_3 rfl ?_
  refine z_callI F B cal_yX10_init (m_chart (o := 100) (by decide) (znewc hl) (zlen1 hl)) dL_law_4 rfl rfl (Nat.le_of_ble_eq_true rfl) (by decide) (by decide) (by decide) ml_L_319 im_yX10_init rfl (fun v hX qX => ?_) (fun C h1 q => q.elim)
  obtain ⟨rfl, ⟨T, R⟩, -, -⟩ := qX
  refine z_astore_n F dL_law_7 rfl rfl (hnl _ rfl) ?_
  refine zi_iconst F dL_law_8 ?_
  refine z_istore_n F dL_law_9 rfl rfl (hnl _ rfl) ?_
  exact Z.widen (by omega) (by omega) (k10 3 0 rfl _ _ (f_B0 T) (zInv_0 T) R rfl)
end
