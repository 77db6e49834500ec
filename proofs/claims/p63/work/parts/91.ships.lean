/-! the law's look at all ships -/
section
variable {o K : Nat} {S : zBt} {h : zH}
theorem w_areShips (hS : hShp S.1) (hA : ∀ i, i < S.1.2.2.2.1.2 → hArr S.1 i) (Bs : zRs h) (R : zRB o S h) (hO : zOk K S.1) (hK : K < 1600000) : zMet yL_areShips cL_areShips 7 (some .boolean) 15 1700 9600 [.ref o] h (fun v h' => v = some (.int (iI 1)) ∧ ∃ S', zSh S S' ∧ zRB o S' h') (fun _ _ => False) := by
  refine zMet.go (by decide +kernel) (Nat.le_of_ble_eq_true rfl) ?_
  intro X F B hnl hR hn
  have hKK : K < 2000000 := by omega
  have hn6 := hO.2.2.2.2.1
  generalize hM : S.1.2.2.2.1.2 = M at *
  refine z_ro F (fun hro => ?_)
  -- ranks
  have k277 : ∀ n r : Nat, n + r = M + 1 → 1 ≤ r → ∀ (S2 : zBt) (h1 : zH) (ls : zL) (k2 n2 : Nat), k2 ≤ 1600 + 10 * r → n2 ≤ 9000 + 60 * r → zSh S S2 → zRB o S2 h1 → zpick ls [3, 2, 1, 0] = [(3, .int (iI (r : Int))), (2, .int (iI 1)), (1, .int (iI (M : Int))), (0, .ref o)] → Z X k2 n2 277 ls [] h1 := by
    intro n
    induction n with
    | zero =>
      intro r hr h1r S2 h1 ls k2 n2 hk2 hn2 s2 R1 el
      refine Z.keys [3, 2, 1, 0] el ?_
      refine z_iload_n F dL_areShips_277 rfl rfl ?_
      refine zi_if_eq (tgt := 334) F dL_areShips_278 (by decide) (by first | omega | (dsimp only at *; omega)) (fun c278 => False.elim (by first | omega | (dsimp only at *; omega))) (fun c278 => ?_)
      refine z_iload_n F dL_areShips_281 rfl rfl ?_
      refine z_iload_n F dL_areShips_282 rfl rfl ?_
      refine zi_icmp_ge (tgt := 334) F dL_areShips_283 (by decide) (by first | omega | (dsimp only at *; omega)) (fun c283 => ?_) (fun c283 => False.elim (by first | omega | (dsimp only at *; omega)))
      refine z_iload_n F dL_areShips_334 rfl rfl ?_
      exact Z.widen (by omega) (by omega) (z_ireturn F rfl B dL_areShips_335 ⟨rfl, S2, s2, R1⟩)
    | succ n ih =>
      intro r hr h1r S2 h1 ls k2 n2 hk2 hn2 s2 R1 el
      refine Z.keys [3, 2, 1, 0] el ?_
      have e1 := s2.1
      have hO2 : zOk K S2.1 := by rw [e1]; exact hO
      by_cases hrM : M ≤ r
      · refine z_iload_n F dL_areShips_277 rfl rfl ?_
        refine zi_if_eq (tgt := 334) F dL_areShips_278 (by decide) (by first | omega | (dsimp only at *; omega)) (fun c278 => False.elim (by first | omega | (dsimp only at *; omega))) (fun c278 => ?_)
        refine z_iload_n F dL_areShips_281 rfl rfl ?_
        refine z_iload_n F dL_areShips_282 rfl rfl ?_
        refine zi_icmp_ge (tgt := 334) F dL_areShips_283 (by decide) (by first | omega | (dsimp only at *; omega)) (fun c283 => ?_) (fun c283 => False.elim (by first | omega | (dsimp only at *; omega)))
        refine z_iload_n F dL_areShips_334 rfl rfl ?_
        exact Z.widen (by omega) (by omega) (z_ireturn F rfl B dL_areShips_335 ⟨rfl, S2, s2, R1⟩)
      · refine z_iload_n F dL_areShips_277 rfl rfl ?_
        refine zi_if_eq (tgt := 334) F dL_areShips_278 (by decide) (by first | omega | (dsimp only at *; omega)) (fun c278 => False.elim (by first | omega | (dsimp only at *; omega))) (fun c278 => ?_)
        refine z_iload_n F dL_areShips_281 rfl rfl ?_
        refine z_iload_n F dL_areShips_282 rfl rfl ?_
        refine zi_icmp_ge (tgt := 334) F dL_areShips_283 (by decide) (by first | omega | (dsimp only at *; omega)) (fun c283 => False.elim (by first | omega | (dsimp only at *; omega))) (fun c283 => ?_)
        refine z_aload_n F dL_areShips_286 rfl rfl ?_
        refine z_iload_n F dL_areShips_287 rfl rfl ?_
        refine zi_iconst F dL_areShips_288 ?_
        refine zi_isub F dL_areShips_289 ?_
        rw [show ((r : Int) - 1) = ((r - 1 : Nat) : Int) by omega]
        refine z_callSH F B calH_yL_shipByDarkness (w_shipByDarkness (z := ((r - 1 : Nat) : Int)) ⟨by omega, by omega⟩ R1 hO2 (by omega)) dL_areShips_290 rfl rfl (Nat.le_of_ble_eq_true rfl) (by decide) (by omega) (by omega) ml_L_288 st_yL_shipByDarkness (fun v hX qX => ?_) (fun C h1 q => q.elim)
        obtain ⟨q1, R2⟩ := qX
        rw [e1, hM] at q1
        have q1 : ∃ i : Nat, i < M ∧ f_sdt S.1 i = r - 1 ∧ v = some (.int (iI (i : Int))) := by rcases q1 with ⟨i, p1, p2, p3⟩ | ⟨p1, p2⟩; exact ⟨i, p1, by omega, p3⟩; obtain ⟨i, p3, p4⟩ := sdt_onto (C := S.1) (r := r - 1) (by omega); exact absurd (by rw [p4]) (p1 i (by omega))
        obtain ⟨i1, p1, p2, rfl⟩ := q1
        refine z_istore F dL_areShips_293 rfl (hnl _ rfl) ?_
        refine z_aload_n F dL_areShips_295 rfl rfl ?_
        refine z_iload_n F dL_areShips_296 rfl rfl ?_
        refine z_callSH F B calH_yL_shipByDarkness (w_shipByDarkness (z := (r : Int)) ⟨by omega, by omega⟩ R2 hO2 (by omega)) dL_areShips_297 rfl rfl (Nat.le_of_ble_eq_true rfl) (by decide) (by omega) (by omega) ml_L_288 st_yL_shipByDarkness (fun v hX qX => ?_) (fun C h1 q => q.elim)
        obtain ⟨q2, R3⟩ := qX
        rw [e1, hM] at q2
        have q2 : ∃ i : Nat, i < M ∧ f_sdt S.1 i = r ∧ v = some (.int (iI (i : Int))) := by rcases q2 with ⟨i, p1, p2, p3⟩ | ⟨p1, p2⟩; exact ⟨i, p1, by omega, p3⟩; obtain ⟨i, p3, p4⟩ := sdt_onto (C := S.1) (r := r) (by omega); exact absurd (by rw [p4]) (p1 i (by omega))
        obtain ⟨i2, p3, p4, rfl⟩ := q2
        have hdk := sdt_next (C := S.1) (i := i1) (j := i2) (hM ▸ p3) (by rw [p2, p4]; exact Nat.sub_lt h1r (by decide))
        have hb1 := (hO.2.2.1 i1).2.2.2
        have hb2 := (hO.2.2.1 i2).2.2.2
        have r0 := R3.2.1
        obtain ⟨σ, τ, r1⟩ := R3.2.2.1
        rw [e1] at r1
        refine z_istore F dL_areShips_300 rfl (hnl _ rfl) ?_
        refine z_aload_n F dL_areShips_302 rfl rfl ?_
        refine z_iload F dL_areShips_303 rfl ?_
        refine z_callV F B cal_yX10_darkMinutes (n_darkMinutes (i := i1) (by omega) r0 r1 hO hKK) dL_areShips_305 rfl rfl (Nat.le_of_ble_eq_true rfl) (by decide) (by omega) (by omega) ml_L_212 im_yX10_darkMinutes se_yX10_darkMinutes r0 (by decide) rfl rfl (fun v hX qX => ?_) (fun C h1 q => q.elim)
        obtain ⟨rfl, qX⟩ := qX
        rw [qX]
        clear qX hX
        refine z_aload_n F dL_areShips_308 rfl rfl ?_
        refine z_iload F dL_areShips_309 rfl ?_
        refine z_callV F B cal_yX10_darkMinutes (n_darkMinutes (i := i2) (by omega) r0 r1 hO hKK) dL_areShips_311 rfl rfl (Nat.le_of_ble_eq_true rfl) (by decide) (by omega) (by omega) ml_L_212 im_yX10_darkMinutes se_yX10_darkMinutes r0 (by decide) rfl rfl (fun v hX qX => ?_) (fun C h1 q => q.elim)
        obtain ⟨rfl, qX⟩ := qX
        rw [qX]
        clear qX hX
        refine zi_isub F dL_areShips_314 ?_
        refine z_istore F dL_areShips_315 rfl (hnl _ rfl) ?_
        refine z_iload F dL_areShips_317 rfl ?_
        refine zi_if_lt (tgt := 326) F dL_areShips_319 (by decide) (by first | omega | (dsimp only at *; omega)) (fun c319 => False.elim (by first | omega | (dsimp only at *; omega))) (fun c319 => ?_)
        refine zi_iconst F dL_areShips_322 ?_
        refine z_goto (tgt := 327) F dL_areShips_323 (by decide) ?_
        refine z_istore_n F dL_areShips_327 rfl rfl (hnl _ rfl) ?_
        refine zi_iinc F dL_areShips_328 rfl rfl (hnl _ rfl) ?_
        refine z_goto (tgt := 277) F dL_areShips_331 (by decide) ?_
        exact ih (r + 1) (by omega) (by omega) S2 _ _ _ _ (by omega) (by omega) s2 R3 rfl
  -- ship by ship
  have k35 : ∀ n i : Nat, n + i = M → ∀ (S2 : zBt) (h1 : zH) (ls : zL) (k2 n2 : Nat), k2 ≤ 4 + 250 * i → n2 ≤ 24 + 1440 * i → zSh S S2 → zRB o S2 h1 → zpick ls [3, 2, 1, 0] = [(3, .int (iI (i : Int))), (2, .int (iI 1)), (1, .int (iI (M : Int))), (0, .ref o)] → Z X k2 n2 35 ls [] h1 := by
    intro n
    induction n with
    | zero =>
      intro i hi S2 h1 ls k2 n2 hk2 hn2 s2 R1 el
      refine Z.keys [3, 2, 1, 0] el ?_
      refine z_iload_n F dL_areShips_35 rfl rfl ?_
      refine zi_if_eq (tgt := 275) F dL_areShips_36 (by decide) (by first | omega | (dsimp only at *; omega)) (fun c36 => False.elim (by first | omega | (dsimp only at *; omega))) (fun c36 => ?_)
      refine z_iload_n F dL_areShips_39 rfl rfl ?_
      refine z_iload_n F dL_areShips_40 rfl rfl ?_
      refine zi_icmp_ge (tgt := 275) F dL_areShips_41 (by decide) (by first | omega | (dsimp only at *; omega)) (fun c41 => ?_) (fun c41 => False.elim (by first | omega | (dsimp only at *; omega)))
      refine zi_iconst F dL_areShips_275 ?_
      refine z_istore_n F dL_areShips_276 rfl rfl (hnl _ rfl) ?_
      exact k277 M 1 rfl (Nat.le_refl _) S2 _ _ _ _ (by omega) (by omega) s2 R1 rfl
    | succ n ih =>
      intro i hi S2 h1 ls k2 n2 hk2 hn2 s2 R1 el
      refine Z.keys [3, 2, 1, 0] el ?_
      have e1 := s2.1
      have hO2 : zOk K S2.1 := by rw [e1]; exact hO
      have hiM : i < S.1.2.2.2.1.2 := by omega
      obtain ⟨hs1, hs2, hs3⟩ := hS i hiM
      have hc64 := (hO.2.2.1 i).1
      have hgo := (hO.2.2.1 i).2.2.1
      have r0 := R1.2.1
      obtain ⟨σ, τ, r1⟩ := R1.2.2.1
      rw [e1] at r1
      -- the arrival
      have k251 : ∀ (h2 : zH) (ls : zL) (k3 n3 : Nat), k3 ≤ k2 + 140 → n3 ≤ n2 + 840 → zRB o S2 h2 → zpick ls [3, 2, 1, 0] = [(3, .int (iI (i : Int))), (2, .int (iI 1)), (1, .int (iI (M : Int))), (0, .ref o)] → Z X k3 n3 251 ls [] h2 := by
        intro h2 ls k3 n3 hk3 hn3 R4 el
        refine Z.keys [3, 2, 1, 0] el ?_
        refine z_iload_n F dL_areShips_251 rfl rfl ?_
        refine zi_if_eq (tgt := 267) F dL_areShips_252 (by decide) (by first | omega | (dsimp only at *; omega)) (fun c252 => False.elim (by first | omega | (dsimp only at *; omega))) (fun c252 => ?_)
        refine z_aload_n F dL_areShips_255 rfl rfl ?_
        refine z_iload_n F dL_areShips_256 rfl rfl ?_
        refine z_callS F B cal_yL_isArrived (w_isArrived (S := S2) (i := i) (by rw [e1]; exact hiM) (by rw [e1]; exact hA i (by omega)) R4 hO2 hK) dL_areShips_257 rfl rfl (Nat.le_of_ble_eq_true rfl) (by decide) (by omega) (by omega) ml_L_297 st_yL_isArrived (fun v hX qX => ?_) (fun C h1 q => q.elim)
        obtain ⟨rfl, S3, s3, R5⟩ := qX
        refine zi_if_eq (tgt := 267) F dL_areShips_260 (by decide) (by first | omega | (dsimp only at *; omega)) (fun c260 => False.elim (by first | omega | (dsimp only at *; omega))) (fun c260 => ?_)
        refine zi_iconst F dL_areShips_263 ?_
        refine z_goto (tgt := 268) F dL_areShips_264 (by decide) ?_
        refine z_istore_n F dL_areShips_268 rfl rfl (hnl _ rfl) ?_
        refine zi_iinc F dL_areShips_269 rfl rfl (hnl _ rfl) ?_
        refine z_goto (tgt := 35) F dL_areShips_272 (by decide) ?_
        exact ih (i + 1) (by omega) S3 _ _ _ _ (by omega) (by omega) (s2.tr s3) R5 rfl
      -- ways to some cells
      have k175 : ∀ n5 k : Nat, 5 * n5 + k = 65 → ∀ (h2 : zH) (ls : zL) (k3 n3 : Nat), k3 + 9 * n5 ≤ k2 + 140 → n3 + 54 * n5 ≤ n2 + 840 → zRB o S2 h2 → zpick ls [6, 3, 2, 1, 0] = [(6, .int (iI (k : Int))), (3, .int (iI (i : Int))), (2, .int (iI 1)), (1, .int (iI (M : Int))), (0, .ref o)] → Z X k3 n3 175 ls [] h2 := by
        intro n5
        induction n5 with
        | zero =>
          intro k hk h2 ls k3 n3 hk3 hn3 R4 el
          refine Z.keys [6, 3, 2, 1, 0] el ?_
          refine z_iload_n F dL_areShips_175 rfl rfl ?_
          refine zi_if_eq (tgt := 251) F dL_areShips_176 (by decide) (by first | omega | (dsimp only at *; omega)) (fun c176 => False.elim (by first | omega | (dsimp only at *; omega))) (fun c176 => ?_)
          refine z_iload F dL_areShips_179 rfl ?_
          refine zi_bipush F dL_areShips_181 (by decide) ?_
          refine zi_icmp_ge (tgt := 251) F dL_areShips_183 (by decide) (by first | omega | (dsimp only at *; omega)) (fun c183 => ?_) (fun c183 => False.elim (by first | omega | (dsimp only at *; omega)))
          exact k251 _ _ _ _ (by omega) (by omega) R4 rfl
        | succ n5 ih5 =>
          intro k hk h2 ls k3 n3 hk3 hn3 R4 el
          refine Z.keys [6, 3, 2, 1, 0] el ?_
          have hwb := way_b (i := i) hO2 ((k : Int) % 8) ((k : Int) / 8)
          have hwe := way_eq (i := i) hO2 ((k : Int) % 8) ((k : Int) / 8)
          refine z_iload_n F dL_areShips_175 rfl rfl ?_
          refine zi_if_eq (tgt := 251) F dL_areShips_176 (by decide) (by first | omega | (dsimp only at *; omega)) (fun c176 => False.elim (by first | omega | (dsimp only at *; omega))) (fun c176 => ?_)
          refine z_iload F dL_areShips_179 rfl ?_
          refine zi_bipush F dL_areShips_181 (by decide) ?_
          refine zi_icmp_ge (tgt := 251) F dL_areShips_183 (by decide) (by first | omega | (dsimp only at *; omega)) (fun c183 => False.elim (by first | omega | (dsimp only at *; omega))) (fun c183 => ?_)
          refine z_aload_n F dL_areShips_186 rfl rfl ?_
          refine z_iload_n F dL_areShips_187 rfl rfl ?_
          refine z_iload F dL_areShips_188 rfl ?_
          refine zi_bipush F dL_areShips_190 (by decide) ?_
          refine zi_irem F dL_areShips_192 (by omega) ?_
          refine z_iload F dL_areShips_193 rfl ?_
          refine zi_bipush F dL_areShips_195 (by decide) ?_
          refine zi_idiv F dL_areShips_197 (by omega) ?_
          refine z_callSH F B calH_yL_wayLengthByRounds (w_wayLengthByRounds (z := (i : Int)) ⟨by omega, by omega⟩ ⟨by omega, by omega⟩ ⟨by omega, by omega⟩ R4 hO2 (by omega)) dL_areShips_198 rfl rfl (Nat.le_of_ble_eq_true rfl) (by decide) (by omega) (by omega) ml_L_292 st_yL_wayLengthByRounds (fun v hX qX => ?_) (fun C h1 q => q.elim)
          obtain ⟨rfl, R5⟩ := qX
          rw [hwe]
          refine z_aload_n F dL_areShips_201 rfl rfl ?_
          refine z_iload_n F dL_areShips_202 rfl rfl ?_
          refine z_iload F dL_areShips_203 rfl ?_
          refine zi_bipush F dL_areShips_205 (by decide) ?_
          refine zi_irem F dL_areShips_207 (by omega) ?_
          refine z_iload F dL_areShips_208 rfl ?_
          refine zi_bipush F dL_areShips_210 (by decide) ?_
          refine zi_idiv F dL_areShips_212 (by omega) ?_
          refine z_callSH F B calH_yL_wayLength (w_wayLength (z := (i : Int)) ⟨by omega, by omega⟩ ⟨by omega, by omega⟩ ⟨by omega, by omega⟩ R5 hO2 (by omega)) dL_areShips_213 rfl rfl (Nat.le_of_ble_eq_true rfl) (by decide) (by omega) (by omega) ml_L_290 st_yL_wayLength (fun v hX qX => ?_) (fun C h1 q => q.elim)
          obtain ⟨rfl, R6⟩ := qX
          refine zi_icmp_ne (tgt := 243) F dL_areShips_216 (by decide) (by first | omega | (dsimp only at *; omega)) (fun c216 => False.elim (by first | omega | (dsimp only at *; omega))) (fun c216 => ?_)
          refine z_aload_n F dL_areShips_219 rfl rfl ?_
          refine z_iload_n F dL_areShips_220 rfl rfl ?_
          refine z_iload F dL_areShips_221 rfl ?_
          refine zi_bipush F dL_areShips_223 (by decide) ?_
          refine zi_irem F dL_areShips_225 (by omega) ?_
          refine z_iload F dL_areShips_226 rfl ?_
          refine zi_bipush F dL_areShips_228 (by decide) ?_
          refine zi_idiv F dL_areShips_230 (by omega) ?_
          refine z_callSH F B calH_yL_wayLength (w_wayLength (z := (i : Int)) ⟨by omega, by omega⟩ ⟨by omega, by omega⟩ ⟨by omega, by omega⟩ R6 hO2 (by omega)) dL_areShips_231 rfl rfl (Nat.le_of_ble_eq_true rfl) (by decide) (by omega) (by omega) ml_L_290 st_yL_wayLength (fun v hX qX => ?_) (fun C h1 q => q.elim)
          obtain ⟨rfl, R7⟩ := qX
          refine zi_bipush F dL_areShips_234 (by decide) ?_
          refine zi_icmp_ge (tgt := 243) F dL_areShips_236 (by decide) (by first | omega | (dsimp only at *; omega)) (fun c236 => False.elim (by first | omega | (dsimp only at *; omega))) (fun c236 => ?_)
          refine zi_iconst F dL_areShips_239 ?_
          refine z_goto (tgt := 244) F dL_areShips_240 (by decide) ?_
          refine z_istore_n F dL_areShips_244 rfl rfl (hnl _ rfl) ?_
          refine zi_iinc F dL_areShips_245 rfl rfl (hnl _ rfl) ?_
          refine z_goto (tgt := 175) F dL_areShips_248 (by decide) ?_
          exact ih5 (k + 5) (by omega) _ _ _ _ (by omega) (by omega) R7 rfl
      -- what it says of itself
      have k156 : ∀ (h2 : zH) (ls : zL) (k3 n3 : Nat), k3 ≤ k2 + 20 → n3 ≤ n2 + 120 → zRB o S2 h2 → zpick ls [3, 1, 0] = [(3, .int (iI (i : Int))), (1, .int (iI (M : Int))), (0, .ref o)] → Z X k3 n3 156 ls [] h2 := by
        intro h2 ls k3 n3 hk3 hn3 R4 el
        refine Z.keys [3, 1, 0] el ?_
        refine z_ro F (fun hro2 => ?_)
        have Bs2 : zRs h2 := Bs.cong (fun a ha => by rw [hro2 a ha, hro a ha])
        refine z_aload_n F dL_areShips_156 rfl rfl ?_
        refine z_iload_n F dL_areShips_157 rfl rfl ?_
        refine z_callV F B cal_yX10_writeShip (n_writeShip (i := i) (by rw [e1]; exact hiM) Bs2 R4 hO2 hKK) dL_areShips_158 rfl rfl (Nat.le_of_ble_eq_true rfl) (by decide) (by omega) (by omega) ml_L_294 im_yX10_writeShip se_yX10_writeShip R4.2.1 (by decide) rfl rfl (fun v hX qX => ?_) (fun C h1 q => q.elim)
        obtain ⟨⟨w, hw1, hw2, rfl⟩, R5⟩ := qX
        refine zi_bipush F dL_areShips_161 (by decide) ?_
        refine zi_icmp_lt (tgt := 170) F dL_areShips_163 (by decide) (by first | omega | (dsimp only at *; omega)) (fun c163 => False.elim (by first | omega | (dsimp only at *; omega))) (fun c163 => ?_)
        refine zi_iconst F dL_areShips_166 ?_
        refine z_goto (tgt := 171) F dL_areShips_167 (by decide) ?_
        refine z_istore_n F dL_areShips_171 rfl rfl (hnl _ rfl) ?_
        refine zi_iconst F dL_areShips_172 ?_
        refine z_istore F dL_areShips_173 rfl (hnl _ rfl) ?_
        exact k175 13 0 rfl _ _ _ _ (by omega) (by omega) R5 rfl
      have ewy : g_way S2.1 (i : Int) (((S.1.2.2.1 i).1 : Int) % 8) (((S.1.2.2.1 i).1 : Int) / 8) = 0 := by rw [e1]; exact way_own hO hiM
      have ewr : g_wayR S2.1 (i : Int) (((S.1.2.2.1 i).1 : Int) % 8) (((S.1.2.2.1 i).1 : Int) / 8) = 0 := by rw [way_eq hO2]; exact ewy
      refine z_iload_n F dL_areShips_35 rfl rfl ?_
      refine zi_if_eq (tgt := 275) F dL_areShips_36 (by decide) (by first | omega | (dsimp only at *; omega)) (fun c36 => False.elim (by first | omega | (dsimp only at *; omega))) (fun c36 => ?_)
      refine z_iload_n F dL_areShips_39 rfl rfl ?_
      refine z_iload_n F dL_areShips_40 rfl rfl ?_
      refine zi_icmp_ge (tgt := 275) F dL_areShips_41 (by decide) (by first | omega | (dsimp only at *; omega)) (fun c41 => False.elim (by first | omega | (dsimp only at *; omega))) (fun c41 => ?_)
      refine z_aload_n F dL_areShips_44 rfl rfl ?_
      refine z_iload_n F dL_areShips_45 rfl rfl ?_
      refine z_callV F B cal_yX10_columnOf (n_columnOf (i := i) hiM r0 r1 hO hKK) dL_areShips_46 rfl rfl (Nat.le_of_ble_eq_true rfl) (by decide) (by omega) (by omega) ml_L_205 im_yX10_columnOf se_yX10_columnOf r0 (by decide) rfl rfl (fun v hX qX => ?_) (fun C h1 q => q.elim)
      obtain ⟨rfl, qX⟩ := qX
      rw [qX]
      clear qX hX
      refine z_istore F dL_areShips_49 rfl (hnl _ rfl) ?_
      refine z_aload_n F dL_areShips_51 rfl rfl ?_
      refine z_iload_n F dL_areShips_52 rfl rfl ?_
      refine z_callV F B cal_yX10_rowOf (n_rowOf (i := i) hiM r0 r1 hO hKK) dL_areShips_53 rfl rfl (Nat.le_of_ble_eq_true rfl) (by decide) (by omega) (by omega) ml_L_202 im_yX10_rowOf se_yX10_rowOf r0 (by decide) rfl rfl (fun v hX qX => ?_) (fun C h1 q => q.elim)
      obtain ⟨rfl, qX⟩ := qX
      rw [qX]
      clear qX hX
      refine z_istore F dL_areShips_56 rfl (hnl _ rfl) ?_
      refine z_aload_n F dL_areShips_58 rfl rfl ?_
      refine z_iload_n F dL_areShips_59 rfl rfl ?_
      refine z_iload F dL_areShips_60 rfl ?_
      refine z_iload F dL_areShips_62 rfl ?_
      refine z_callSH F B calH_yL_wayLength (w_wayLength (z := (i : Int)) ⟨by omega, by omega⟩ ⟨by omega, by omega⟩ ⟨by omega, by omega⟩ R1 hO2 (by omega)) dL_areShips_64 rfl rfl (Nat.le_of_ble_eq_true rfl) (by decide) (by omega) (by omega) ml_L_290 st_yL_wayLength (fun v hX qX => ?_) (fun C h1 q => q.elim)
      clear r0 r1
      obtain ⟨rfl, R2⟩ := qX
      rw [ewy]
      refine zi_if_ne (tgt := 170) F dL_areShips_67 (by decide) (by first | omega | (dsimp only at *; omega)) (fun c67 => False.elim (by first | omega | (dsimp only at *; omega))) (fun c67 => ?_)
      refine z_aload_n F dL_areShips_70 rfl rfl ?_
      refine z_iload_n F dL_areShips_71 rfl rfl ?_
      refine z_iload F dL_areShips_72 rfl ?_
      refine z_iload F dL_areShips_74 rfl ?_
      refine z_callSH F B calH_yL_wayLengthByRounds (w_wayLengthByRounds (z := (i : Int)) ⟨by omega, by omega⟩ ⟨by omega, by omega⟩ ⟨by omega, by omega⟩ R2 hO2 (by omega)) dL_areShips_76 rfl rfl (Nat.le_of_ble_eq_true rfl) (by decide) (by omega) (by omega) ml_L_292 st_yL_wayLengthByRounds (fun v hX qX => ?_) (fun C h1 q => q.elim)
      obtain ⟨rfl, R3⟩ := qX
      rw [ewr]
      refine zi_if_ne (tgt := 170) F dL_areShips_79 (by decide) (by first | omega | (dsimp only at *; omega)) (fun c79 => False.elim (by first | omega | (dsimp only at *; omega))) (fun c79 => ?_)
      refine z_aload_n F dL_areShips_82 rfl rfl ?_
      refine z_iload_n F dL_areShips_83 rfl rfl ?_
      refine z_callSH F B calH_yL_goalColumn (w_goalColumn (z := (i : Int)) ⟨by omega, by omega⟩ R3 hO2 (by omega)) dL_areShips_84 rfl rfl (Nat.le_of_ble_eq_true rfl) (by decide) (by omega) (by omega) ml_L_208 st_yL_goalColumn (fun v hX qX => ?_) (fun C h1 q => q.elim)
      obtain ⟨rfl, R4⟩ := qX
      rcases hg : (S.1.2.2.1 i).2.2.1 with _ | g
      · have egc : g_gc S2.1 (i : Int) = -1000 := by rw [e1]; unfold g_gc; rw [if_pos (by omega), Int.toNat_natCast, hg]
        have egr : g_gr S2.1 (i : Int) = -1000 := by rw [e1]; unfold g_gr; rw [if_pos (by omega), Int.toNat_natCast, hg]
        rw [egc]
        refine zi_sipush F dL_areShips_87 (by decide) ?_
        refine zi_icmp_ne (tgt := 97) F dL_areShips_90 (by decide) (by first | omega | (dsimp only at *; omega)) (fun c90 => False.elim (by first | omega | (dsimp only at *; omega))) (fun c90 => ?_)
        refine zi_iconst F dL_areShips_93 ?_
        refine z_goto (tgt := 98) F dL_areShips_94 (by decide) ?_
        refine z_aload_n F dL_areShips_98 rfl rfl ?_
        refine z_iload_n F dL_areShips_99 rfl rfl ?_
        refine z_callSH F B calH_yL_goalRow (w_goalRow (z := (i : Int)) ⟨by omega, by omega⟩ R4 hO2 (by omega)) dL_areShips_100 rfl rfl (Nat.le_of_ble_eq_true rfl) (by decide) (by omega) (by omega) ml_L_210 st_yL_goalRow (fun v hX qX => ?_) (fun C h1 q => q.elim)
        obtain ⟨rfl, R5⟩ := qX
        rw [egr]
        refine zi_sipush F dL_areShips_103 (by decide) ?_
        refine zi_icmp_ne (tgt := 113) F dL_areShips_106 (by decide) (by first | omega | (dsimp only at *; omega)) (fun c106 => False.elim (by first | omega | (dsimp only at *; omega))) (fun c106 => ?_)
        refine zi_iconst F dL_areShips_109 ?_
        refine z_goto (tgt := 114) F dL_areShips_110 (by decide) ?_
        refine zi_icmp_ne (tgt := 170) F dL_areShips_114 (by decide) (by first | omega | (dsimp only at *; omega)) (fun c114 => False.elim (by first | omega | (dsimp only at *; omega))) (fun c114 => ?_)
        have r0 := R5.2.1
        obtain ⟨σ, τ, r1⟩ := R5.2.2.1
        rw [e1] at r1
        refine z_aload_n F dL_areShips_117 rfl rfl ?_
        refine z_iload_n F dL_areShips_118 rfl rfl ?_
        refine z_callV F B cal_yX10_isWrecked (n_isWrecked (i := i) hiM r0 r1 hO hKK) dL_areShips_119 rfl rfl (Nat.le_of_ble_eq_true rfl) (by decide) (by omega) (by omega) ml_L_215 im_yX10_isWrecked se_yX10_isWrecked r0 (by decide) rfl rfl (fun v hX qX => ?_) (fun C h1 q => q.elim)
        obtain ⟨rfl, qX⟩ := qX
        rw [qX]
        clear qX hX
        rcases hw : (S.1.2.2.1 i).2.2.2.1 with _ | _
        · rw [show zBo false = 0 from rfl]
          refine zi_if_eq (tgt := 136) F dL_areShips_122 (by decide) (by first | omega | (dsimp only at *; omega)) (fun c122 => ?_) (fun c122 => False.elim (by first | omega | (dsimp only at *; omega)))
          refine z_aload_n F dL_areShips_136 rfl rfl ?_
          refine z_iload_n F dL_areShips_137 rfl rfl ?_
          refine z_callSH F B calH_yL_goalRow (w_goalRow (z := (i : Int)) ⟨by omega, by omega⟩ R5 hO2 (by omega)) dL_areShips_138 rfl rfl (Nat.le_of_ble_eq_true rfl) (by decide) (by omega) (by omega) ml_L_210 st_yL_goalRow (fun v hX qX => ?_) (fun C h1 q => q.elim)
          obtain ⟨rfl, R6⟩ := qX
          rw [egr]
          refine z_iload F dL_areShips_141 rfl ?_
          refine zi_icmp_ne (tgt := 156) F dL_areShips_143 (by decide) (by first | omega | (dsimp only at *; omega)) (fun c143 => ?_) (fun c143 => False.elim (by first | omega | (dsimp only at *; omega)))
          exact k156 _ _ _ _ (by omega) (by omega) R6 rfl
        · rw [show zBo true = 1 from rfl]
          refine zi_if_eq (tgt := 136) F dL_areShips_122 (by decide) (by first | omega | (dsimp only at *; omega)) (fun c122 => False.elim (by first | omega | (dsimp only at *; omega))) (fun c122 => ?_)
          refine z_aload_n F dL_areShips_125 rfl rfl ?_
          refine z_iload_n F dL_areShips_126 rfl rfl ?_
          refine z_callSH F B calH_yL_goalRow (w_goalRow (z := (i : Int)) ⟨by omega, by omega⟩ R5 hO2 (by omega)) dL_areShips_127 rfl rfl (Nat.le_of_ble_eq_true rfl) (by decide) (by omega) (by omega) ml_L_210 st_yL_goalRow (fun v hX qX => ?_) (fun C h1 q => q.elim)
          obtain ⟨rfl, R6⟩ := qX
          rw [egr]
          refine zi_sipush F dL_areShips_130 (by decide) ?_
          refine zi_icmp_ne (tgt := 170) F dL_areShips_133 (by decide) (by first | omega | (dsimp only at *; omega)) (fun c133 => False.elim (by first | omega | (dsimp only at *; omega))) (fun c133 => ?_)
          refine z_aload_n F dL_areShips_136 rfl rfl ?_
          refine z_iload_n F dL_areShips_137 rfl rfl ?_
          refine z_callSH F B calH_yL_goalRow (w_goalRow (z := (i : Int)) ⟨by omega, by omega⟩ R6 hO2 (by omega)) dL_areShips_138 rfl rfl (Nat.le_of_ble_eq_true rfl) (by decide) (by omega) (by omega) ml_L_210 st_yL_goalRow (fun v hX qX => ?_) (fun C h1 q => q.elim)
          obtain ⟨rfl, R7⟩ := qX
          rw [egr]
          refine z_iload F dL_areShips_141 rfl ?_
          refine zi_icmp_ne (tgt := 156) F dL_areShips_143 (by decide) (by first | omega | (dsimp only at *; omega)) (fun c143 => ?_) (fun c143 => False.elim (by first | omega | (dsimp only at *; omega)))
          exact k156 _ _ _ _ (by omega) (by omega) R7 rfl
      · have hg64 := hgo g hg
        have egc : g_gc S2.1 (i : Int) = (g : Int) % 8 := by rw [e1]; unfold g_gc; rw [if_pos (by omega), Int.toNat_natCast, hg]
        have egr : g_gr S2.1 (i : Int) = (g : Int) / 8 := by rw [e1]; unfold g_gr; rw [if_pos (by omega), Int.toNat_natCast, hg]
        have hw : (S.1.2.2.1 i).2.2.2.1 = false := by
          rcases hq : (S.1.2.2.1 i).2.2.2.1 with _ | _
          · rfl
          · have := hs2 hq; rw [hg] at this; cases this
        have hne : ¬ g = (S.1.2.2.1 i).1 := fun e => hs3 (by rw [hg, e])
        rw [egc]
        refine zi_sipush F dL_areShips_87 (by decide) ?_
        refine zi_icmp_ne (tgt := 97) F dL_areShips_90 (by decide) (by first | omega | (dsimp only at *; omega)) (fun c90 => ?_) (fun c90 => False.elim (by first | omega | (dsimp only at *; omega)))
        refine zi_iconst F dL_areShips_97 ?_
        refine z_aload_n F dL_areShips_98 rfl rfl ?_
        refine z_iload_n F dL_areShips_99 rfl rfl ?_
        refine z_callSH F B calH_yL_goalRow (w_goalRow (z := (i : Int)) ⟨by omega, by omega⟩ R4 hO2 (by omega)) dL_areShips_100 rfl rfl (Nat.le_of_ble_eq_true rfl) (by decide) (by omega) (by omega) ml_L_210 st_yL_goalRow (fun v hX qX => ?_) (fun C h1 q => q.elim)
        obtain ⟨rfl, R5⟩ := qX
        rw [egr]
        refine zi_sipush F dL_areShips_103 (by decide) ?_
        refine zi_icmp_ne (tgt := 113) F dL_areShips_106 (by decide) (by first | omega | (dsimp only at *; omega)) (fun c106 => ?_) (fun c106 => False.elim (by first | omega | (dsimp only at *; omega)))
        refine zi_iconst F dL_areShips_113 ?_
        refine zi_icmp_ne (tgt := 170) F dL_areShips_114 (by decide) (by first | omega | (dsimp only at *; omega)) (fun c114 => False.elim (by first | omega | (dsimp only at *; omega))) (fun c114 => ?_)
        have r0 := R5.2.1
        obtain ⟨σ, τ, r1⟩ := R5.2.2.1
        rw [e1] at r1
        refine z_aload_n F dL_areShips_117 rfl rfl ?_
        refine z_iload_n F dL_areShips_118 rfl rfl ?_
        refine z_callV F B cal_yX10_isWrecked (n_isWrecked (i := i) hiM r0 r1 hO hKK) dL_areShips_119 rfl rfl (Nat.le_of_ble_eq_true rfl) (by decide) (by omega) (by omega) ml_L_215 im_yX10_isWrecked se_yX10_isWrecked r0 (by decide) rfl rfl (fun v hX qX => ?_) (fun C h1 q => q.elim)
        obtain ⟨rfl, qX⟩ := qX
        rw [qX]
        clear qX hX
        rw [hw, show zBo false = 0 from rfl]
        refine zi_if_eq (tgt := 136) F dL_areShips_122 (by decide) (by first | omega | (dsimp only at *; omega)) (fun c122 => ?_) (fun c122 => False.elim (by first | omega | (dsimp only at *; omega)))
        refine z_aload_n F dL_areShips_136 rfl rfl ?_
        refine z_iload_n F dL_areShips_137 rfl rfl ?_
        refine z_callSH F B calH_yL_goalRow (w_goalRow (z := (i : Int)) ⟨by omega, by omega⟩ R5 hO2 (by omega)) dL_areShips_138 rfl rfl (Nat.le_of_ble_eq_true rfl) (by decide) (by omega) (by omega) ml_L_210 st_yL_goalRow (fun v hX qX => ?_) (fun C h1 q => q.elim)
        obtain ⟨rfl, R6⟩ := qX
        rw [egr]
        refine z_iload F dL_areShips_141 rfl ?_
        by_cases hrow : (g : Int) / 8 = ((S.1.2.2.1 i).1 : Int) / 8
        · refine zi_icmp_ne (tgt := 156) F dL_areShips_143 (by decide) (by first | omega | (dsimp only at *; omega)) (fun c143 => False.elim (by first | omega | (dsimp only at *; omega))) (fun c143 => ?_)
          refine z_aload_n F dL_areShips_146 rfl rfl ?_
          refine z_iload_n F dL_areShips_147 rfl rfl ?_
          refine z_callSH F B calH_yL_goalColumn (w_goalColumn (z := (i : Int)) ⟨by omega, by omega⟩ R6 hO2 (by omega)) dL_areShips_148 rfl rfl (Nat.le_of_ble_eq_true rfl) (by decide) (by omega) (by omega) ml_L_208 st_yL_goalColumn (fun v hX qX => ?_) (fun C h1 q => q.elim)
          obtain ⟨rfl, R7⟩ := qX
          rw [egc]
          refine z_iload F dL_areShips_151 rfl ?_
          refine zi_icmp_eq (tgt := 170) F dL_areShips_153 (by decide) (by first | omega | (dsimp only at *; omega)) (fun c153 => False.elim (by first | omega | (dsimp only at *; omega))) (fun c153 => ?_)
          exact k156 _ _ _ _ (by omega) (by omega) R7 rfl
        · refine zi_icmp_ne (tgt := 156) F dL_areShips_143 (by decide) (by first | omega | (dsimp only at *; omega)) (fun c143 => ?_) (fun c143 => False.elim (by first | omega | (dsimp only at *; omega)))
          exact k156 _ _ _ _ (by omega) (by omega) R6 rfl
  have r0 := R.2.1
  obtain ⟨σ, τ, r1⟩ := R.2.2.1
  refine z_aload_n F dL_areShips_0 rfl rfl ?_
  refine z_callV F B cal_yX10_shipCount (m_shipCount r0 r1) dL_areShips_1 rfl rfl (Nat.le_of_ble_eq_true rfl) (by decide) (by omega) (by omega) ml_L_182 im_yX10_shipCount se_yX10_shipCount r0 (by decide) rfl rfl (fun v hX qX => ?_) (fun C h1 q => q.elim)
  obtain ⟨rfl, qX⟩ := qX
  rw [qX]
  clear qX hX
  rw [hM]
  refine z_istore_n F dL_areShips_4 rfl rfl (hnl _ rfl) ?_
  refine z_aload_n F dL_areShips_5 rfl rfl ?_
  refine z_iload_n F dL_areShips_6 rfl rfl ?_
  refine z_callSH F B calH_yL_shipByDarkness (w_shipByDarkness (z := (M : Int)) ⟨by omega, by omega⟩ R hO (by omega)) dL_areShips_7 rfl rfl (Nat.le_of_ble_eq_true rfl) (by decide) (by omega) (by omega) ml_L_288 st_yL_shipByDarkness (fun v hX qX => ?_) (fun C h1 q => q.elim)
  obtain ⟨q1, R2⟩ := qX
  rw [hM] at q1
  have q1 : v = some (.int (iI (-1000))) := by rcases q1 with ⟨i, p1, p2, p3⟩ | ⟨p1, p2⟩; have := sdt_lt (C := S.1) (j := i) (by omega); omega; exact p2
  subst q1
  refine zi_sipush F dL_areShips_10 (by decide) ?_
  refine zi_icmp_ne (tgt := 31) F dL_areShips_13 (by decide) (by first | omega | (dsimp only at *; omega)) (fun c13 => False.elim (by first | omega | (dsimp only at *; omega))) (fun c13 => ?_)
  refine z_aload_n F dL_areShips_16 rfl rfl ?_
  refine zi_iconst F dL_areShips_17 ?_
  refine z_callSH F B calH_yL_shipByDarkness (w_shipByDarkness (z := -1) ⟨by omega, by omega⟩ R2 hO (by omega)) dL_areShips_18 rfl rfl (Nat.le_of_ble_eq_true rfl) (by decide) (by omega) (by omega) ml_L_288 st_yL_shipByDarkness (fun v hX qX => ?_) (fun C h1 q => q.elim)
  obtain ⟨q1, R3⟩ := qX
  have q1 : v = some (.int (iI (-1000))) := by rcases q1 with ⟨i, p1, p2, p3⟩ | ⟨p1, p2⟩; omega; exact p2
  subst q1
  refine zi_sipush F dL_areShips_21 (by decide) ?_
  refine zi_icmp_ne (tgt := 31) F dL_areShips_24 (by decide) (by first | omega | (dsimp only at *; omega)) (fun c24 => False.elim (by first | omega | (dsimp only at *; omega))) (fun c24 => ?_)
  refine zi_iconst F dL_areShips_27 ?_
  refine z_goto (tgt := 32) F dL_areShips_28 (by decide) ?_
  refine z_istore_n F dL_areShips_32 rfl rfl (hnl _ rfl) ?_
  refine zi_iconst F dL_areShips_33 ?_
  refine z_istore_n F dL_areShips_34 rfl rfl (hnl _ rfl) ?_
  exact k35 M 0 rfl S _ _ _ _ (by omega) (by omega) (zSh.rf S) R3 rfl
end
