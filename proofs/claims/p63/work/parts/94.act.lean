/-! what the law does out of a number of the script -/
theorem and_ex (a : Int32) {m : Nat} (hm : m < 2147483648) : ∃ n : Nat, n ≤ m ∧ a &&& iI (m : Int) = iI (n : Int) := by
  refine ⟨(a.toBitVec &&& (nI m).toBitVec).toNat, ?_, ?_⟩
  · rw [BitVec.toNat_and]
    refine Nat.le_trans Nat.and_le_right ?_
    show (BitVec.ofNat 32 m).toNat ≤ m
    rw [BitVec.toNat_ofNat]
    exact Nat.mod_le _ _
  · rw [← iI_nI, ← iI_nI]
    refine Int32.toBitVec_inj.mp ?_
    show a.toBitVec &&& (nI m).toBitVec = BitVec.ofNat 32 _
    simp
theorem ishr_k : ∀ k : Nat, k < 32 → ((nI k &&& 31).toBitVec.smod 32) = BitVec.ofNat 32 k := by decide +kernel
theorem ishr_nat {y : Nat} (hy : y < 65536) {k : Nat} (hk : k < 31) : iI (y : Int) >>> (iI (k : Int) &&& 31) = iI ((y / 2 ^ k : Nat) : Int) := by
  rw [← iI_nI, ← iI_nI, ← iI_nI]
  refine Int32.toBitVec_inj.mp ?_
  rw [Int32.toBitVec_shiftRight, ishr_k k (by omega)]
  have ey : (nI y).toBitVec.toNat = y := by show (BitVec.ofNat 32 y).toNat = y; rw [BitVec.toNat_ofNat, Nat.mod_eq_of_lt (by omega)]
  have ek : (BitVec.ofNat 32 k).toNat = k := by rw [BitVec.toNat_ofNat, Nat.mod_eq_of_lt (by omega)]
  show (nI y).toBitVec.sshiftRight (BitVec.ofNat 32 k).toNat = _
  rw [ek, BitVec.sshiftRight_eq_of_msb_false (BitVec.msb_eq_false_iff_two_mul_lt.mpr (by rw [ey]; omega))]
  apply BitVec.eq_of_toNat_eq
  rw [BitVec.toNat_ushiftRight, ey, Nat.shiftRight_eq_div_pow]
  show _ = (BitVec.ofNat 32 _).toNat
  rw [BitVec.toNat_ofNat, Nat.mod_eq_of_lt (Nat.lt_of_le_of_lt (Nat.div_le_self _ _) (by omega))]
/-- what every state between the law's steps keeps -/
def zInv (K : Nat) (S : zBt) : Prop := zGS K S ∧ S.2.2.2.1.2 = 0
theorem zInv.mono {K K' : Nat} {S : zBt} (h : zInv K S) (hk : K ≤ K') : zInv K' S := ⟨h.1.mono hk, h.2⟩
section
variable {K : Nat} {C : zCo} {S : zBt}
theorem d_cd (x y d : Int) : (f_cd C x y d).1 < 0 → (f_cd C x y d).2.1 = C := by
  unfold f_cd
  (repeat' split) <;> intro q <;> first | rfl | (exfalso; dsimp only at q; omega)
theorem d_pl (x y r p : Int) : (f_pl C x y r p).1 < 0 → (f_pl C x y r p).2.1 = C := by
  unfold f_pl
  (repeat' split) <;> intro q <;> first | rfl | (exfalso; dsimp only at q; omega)
theorem d_cp (l p : Int) : (f_cp C l p).1 < 0 → (f_cp C l p).2.1 = C := by
  unfold f_cp
  (repeat' split) <;> intro q <;> first | rfl | (exfalso; dsimp only at q; omega)
theorem d_dl (l : Int) : (f_dl C l).1 < 0 → (f_dl C l).2.1 = C := by
  unfold f_dl
  (repeat' split) <;> intro q <;> first | rfl | (exfalso; dsimp only at q; omega)
theorem d_ls (x y d : Int) : (f_ls C x y d).1 < 0 → (f_ls C x y d).2.1 = C := by
  unfold f_ls
  (repeat' split) <;> intro q <;> first | rfl | (exfalso; dsimp only at q; omega)
theorem d_cg (l x y : Int) : (f_cg C l x y).1 < 0 → (f_cg C l x y).2.1 = C := by
  unfold f_cg
  (repeat' split) <;> intro q <;> first | rfl | (exfalso; dsimp only at q; omega)
theorem d_sv (l : Int) : (f_sv C l).1 < 0 → (f_sv C l).2.1 = C := by
  unfold f_sv
  (repeat' split) <;> intro q <;> first | rfl | (exfalso; dsimp only at q; omega)
theorem d_ps (m : Int) : (f_ps C m).1 < 0 → (f_ps C m).2.1 = C := by
  have := f_mins_sg m.toNat C
  unfold f_ps
  (repeat' split) <;> intro q <;> first | rfl | (exfalso; dsimp only at q; omega)
theorem zInv.fin (h : zInv K S) {r : zCh} {K' : Nat} (hk : K ≤ K') (hr : zGd K' r.2.1) : zInv K' (f_fin S r) := ⟨(h.1.mono hk).fin hr, by
  unfold f_fin
  split <;> exact h.2⟩
theorem fin_den {r : zCh} (hd : r.1 < 0 → r.2.1 = S.1) (h : f_an r.1 = -100000000) (hb : -100000000 < r.1) : (f_fin S r).1 = S.1 := by
  unfold f_an at h
  unfold f_fin
  split
  · rename_i q
    exact hd q
  · rename_i q
    rw [if_neg q] at h
    omega
theorem an_b {a : Int} (h : zI32 a) : zI32 (f_an a) := by
  unfold zI32 at h
  unfold f_an zI32
  split <;> omega
theorem f_run_no : ∀ (cs : List (Nat × List Nat)) (i : Nat) (S : zBt), (f_run cs i S).2 = false → (f_run cs i S).1.1 = S.2.2.1.2.2 8
  | [], i, S, h => by cases h
  | c :: cs, i, S, h => by
    rw [f_run_cons] at h ⊢
    split
    · rfl
    · rename_i q
      rw [if_neg q] at h
      exact f_run_no cs (i + 1) (f_put S (f_perf S.1 c.1 (fun j => c.2.getD j 0))) h
theorem exe_den (r : Int × List (Nat × List Nat)) (h : (f_exe S r).2 = -100000000) : (f_exe S r).1.1 = S.1 := by
  unfold f_exe at h ⊢
  by_cases e : r.1 = -1
  · rw [if_pos e] at h ⊢
    dsimp only at h ⊢
    by_cases q : (f_run r.2 0 (f_prep S)).2 = true
    · rw [if_pos q] at h
      omega
    · rw [Bool.not_eq_true] at q
      rw [f_run_no _ _ _ q]
      show zup S.2.2.1.2.2 8 S.1 8 = S.1
      exact zup_s _ _ _
  · rw [if_neg e]
    rfl
theorem exe_b (r : Int × List (Nat × List Nat)) (hr : r.2.length ≤ 10) : zI32 (f_exe S r).2 := by
  unfold f_exe zI32
  (repeat' split) <;> dsimp only <;> omega
end
/-- what one of the law's steps leaves -/
def zAct (o K : Nat) (S : zBt) (v : Option Value) (h' : zH) : Prop := ∃ (a : Int) (S' : zBt), v = some (.int (iI a)) ∧ zI32 a ∧ zInv (K + 21000) S' ∧ zRB o S' h' ∧ (a = -100000000 → S'.1 = S.1)
theorem zAct.chg {o K : Nat} {S : zBt} {r : zCh} {h' : zH} (I : zInv K S) (hb : zI32 r.1 ∧ (r.1 < 0 → r.1 = -1 ∨ r.1 = -2 ∨ r.1 = -3)) (hd : r.1 < 0 → r.2.1 = S.1) (hr : zGd (K + 2100) r.2.1) (R : zRB o (f_fin S r) h') : zAct o K S (some (.int (iI (f_an r.1)))) h' :=
  ⟨_, _, rfl, an_b hb.1, (I.fin (Nat.le_add_right K 2100) hr).mono (by omega), R, fun q => fin_den hd q (by have := hb.2; omega)⟩
section
variable {o K : Nat} {S : zBt} {h : zH}
theorem w_typed {k : Nat} (hk : k < 24) (Bs : zRs h) (I : zInv K S) (R : zRB o S h) : zMet yL_typed cL_typed 3 (some (.object "BeamChart")) 5 0 0 [.ref o, .ref (29 + k)] h (fun v h' => v = some (.ref o) ∧ zRB o (f_ty (roTxt.getD k []) S) h') (fun _ _ => False) :=
  m_typed (Bs.text hk) (by rw [I.2, Nat.zero_add]; exact (roTxt_128 k hk).1) R
theorem v_execute {k : Nat} (hk : k < 24) (Bs : zRs h) (I : zInv K S) (R : zRB o (f_ty (roTxt.getD k []) S) h) (hK : K < 1500000) : zMetH yL_execute cL_execute 3 (some .int) [(3, 8, 11, 19), (3, 8, 15, 21)] 11 1 6 [.ref o] h (fun v h' => v = some (.int (iI (f_exe S (f_prs (roTxt.getD k []) 10 0 [])).2)) ∧ ∃ T', zRB o (f_tx (f_exe S (f_prs (roTxt.getD k []) 10 0 [])).1 (T', 0)) h') (fun _ _ => False) := by
  have hp := roTxt_prs k hk
  have ht := f_ty_tx (roTxt.getD k []) S
  have M := w_execute (K := K) (G := zGd) (S := f_ty (roTxt.getD k []) S) (tx := roTxt.getD k []) rfl hp.2 ⟨by omega, by omega⟩ Bs (f_ty_is I.2 (roTxt_128 k hk).1 (roTxt_128 k hk).2) (by rw [f_ty_len, I.2, Nat.zero_add]) R (by rw [ht]; exact I.1.1) (fun n C g => g.1) g_perf hK
  have ee : ∀ (x : (Nat → Nat) × Nat) r, r.1 = -1 → f_exe (f_tx S x) r = (f_tx (f_exe S r).1 x, (f_exe S r).2) := fun x r e => by
    unfold f_exe
    rw [if_pos e, if_pos e, show f_prep (f_tx S x) = f_tx (f_prep S) x from rfl, f_run_tx]
  rw [ht, ee _ _ hp.1] at M
  exact M
set_option maxHeartbeats 4000000 in
theorem w_act {x : Int32} (Bs : zRs h) (I : zInv K S) (R : zRB o S h) (hK : K < 1400000) : zMet yL_act cL_act 6 (some .int) 13 4 24 [.ref o, .int x] h (fun v h' => zAct o K S v h') (fun _ _ => False) := by
  refine zMet.go (by decide +kernel) (Nat.le_of_ble_eq_true rfl) ?_
  intro X F B hnl hR hn
  have hO := I.1.1.1
  have hG := I.1.1
  have hcnt := hO.2.2.2.2.1
  have hhb := R.hb
  refine z_iload_n F dL_act_0 rfl rfl ?_
  refine zi_iconst F dL_act_1 ?_
  refine z_ishr F dL_act_2 ?_
  refine z_ldc F dL_act_3 zw_L_7 ?_
  refine z_iand F dL_act_5 ?_
  rw [pk_and (x >>> (iI 4 &&& 31)) 16 (by decide), iI_nI]
  have hy : (x >>> (iI 4 &&& 31)).toBitVec.toNat % 2 ^ 16 < 65536 := Nat.mod_lt _ (by decide)
  generalize (x >>> (iI 4 &&& 31)).toBitVec.toNat % 2 ^ 16 = y at hy ⊢
  refine z_istore_n F dL_act_6 rfl rfl (hnl _ rfl) ?_
  refine z_iload_n F dL_act_7 rfl rfl ?_
  refine zi_bipush F dL_act_8 (by decide) ?_
  refine zi_irem F dL_act_10 (by omega) ?_
  refine z_istore_n F dL_act_11 rfl rfl (hnl _ rfl) ?_
  refine z_iload_n F dL_act_12 rfl rfl ?_
  refine zi_iconst F dL_act_13 ?_
  refine z_ishr F dL_act_14 ?_
  rw [show (3 : Int) = ((3 : Nat) : Int) from rfl, ishr_nat hy (by decide)]
  refine zi_bipush F dL_act_15 (by decide) ?_
  refine zi_irem F dL_act_17 (by omega) ?_
  refine z_istore F dL_act_18 rfl (hnl _ rfl) ?_
  refine z_iload_n F dL_act_20 rfl rfl ?_
  refine zi_iconst F dL_act_21 ?_
  refine z_ishr F dL_act_22 ?_
  rw [show (5 : Int) = ((5 : Nat) : Int) from rfl, ishr_nat hy (by decide)]
  refine zi_iconst F dL_act_23 ?_
  refine zi_irem F dL_act_24 (by omega) ?_
  refine z_istore F dL_act_25 rfl (hnl _ rfl) ?_
  refine z_iload_n F dL_act_27 rfl rfl ?_
  refine zi_bipush F dL_act_28 (by decide) ?_
  refine z_iand F dL_act_30 ?_
  rw [show iI 15 = (15 : Int32) from rfl, pk_and x 4 (by decide), iI_nI]
  have hc : x.toBitVec.toNat % 2 ^ 4 < 16 := Nat.mod_lt _ (by decide)
  generalize x.toBitVec.toNat % 2 ^ 4 = c at hc ⊢
  have e8 : y / 2 ^ 3 < 65536 := by omega
  have e6 : iI (y : Int) >>> (iI 6 &&& 31) = iI ((y / 2 ^ 6 : Nat) : Int) := ishr_nat hy (by decide)
  have e7 : iI (y : Int) >>> (iI 7 &&& 31) = iI ((y / 2 ^ 7 : Nat) : Int) := ishr_nat hy (by decide)
  obtain ⟨z64, hz64, ez64⟩ := and_ex (iI (y : Int)) (m := 64) (by decide)
  have ez64 : iI (y : Int) &&& iI 64 = iI (z64 : Int) := ez64
  obtain ⟨z3, hz3, ez3⟩ := and_ex (iI (y : Int)) (m := 3) (by decide)
  have ez3 : iI (y : Int) &&& iI 3 = iI (z3 : Int) := ez3
  rcases (show c = 0 ∨ c = 1 ∨ c = 2 ∨ c = 3 ∨ c = 4 ∨ c = 5 ∨ c = 6 ∨ c = 7 ∨ c = 8 ∨ c = 9 ∨ c = 10 ∨ c = 11 ∨ c = 12 ∨ c = 13 ∨ c = 14 ∨ c = 15 by omega) with rfl | rfl | rfl | rfl | rfl | rfl | rfl | rfl | rfl | rfl | rfl | rfl | rfl | rfl | rfl | rfl
  · refine z_tableIn (off := 73) (tgt := 104) F dL_act_31 (by decide +kernel) (by decide +kernel) (by decide +kernel) (by decide) ?_
    refine z_aload_n F dL_act_104 rfl rfl ?_
    refine z_iload_n F dL_act_105 rfl rfl ?_
    refine z_iload F dL_act_106 rfl ?_
    refine z_iload_n F dL_act_108 rfl rfl ?_
    refine zi_bipush F dL_act_109 (by decide) ?_
    refine z_ishr F dL_act_111 ?_
    rw [e6]
    refine zi_bipush F dL_act_112 (by decide) ?_
    refine zi_irem F dL_act_114 (by omega) ?_
    refine z_callSH F B calH_yL_setDepth (w_setDepth ⟨by omega, by omega⟩ ⟨by omega, by omega⟩ ⟨by omega, by omega⟩ R hO (by omega)) dL_act_115 rfl rfl (Nat.le_of_ble_eq_true rfl) (by decide) (by decide) (by decide) ml_L_121 st_yL_setDepth (fun v hX qX => ?_) (fun C h1 q => q.elim)
    obtain ⟨rfl, R2⟩ := qX
    exact Z.widen (by omega) (by omega) (z_ireturn F rfl B dL_act_118 (zAct.chg I (f_cd_b hO) (d_cd _ _ _) ((g_cd hG _ _ _).mono (by omega)) R2))
  · refine z_tableIn (off := 73) (tgt := 104) F dL_act_31 (by decide +kernel) (by decide +kernel) (by decide +kernel) (by decide) ?_
    refine z_aload_n F dL_act_104 rfl rfl ?_
    refine z_iload_n F dL_act_105 rfl rfl ?_
    refine z_iload F dL_act_106 rfl ?_
    refine z_iload_n F dL_act_108 rfl rfl ?_
    refine zi_bipush F dL_act_109 (by decide) ?_
    refine z_ishr F dL_act_111 ?_
    rw [e6]
    refine zi_bipush F dL_act_112 (by decide) ?_
    refine zi_irem F dL_act_114 (by omega) ?_
    refine z_callSH F B calH_yL_setDepth (w_setDepth ⟨by omega, by omega⟩ ⟨by omega, by omega⟩ ⟨by omega, by omega⟩ R hO (by omega)) dL_act_115 rfl rfl (Nat.le_of_ble_eq_true rfl) (by decide) (by decide) (by decide) ml_L_121 st_yL_setDepth (fun v hX qX => ?_) (fun C h1 q => q.elim)
    obtain ⟨rfl, R2⟩ := qX
    exact Z.widen (by omega) (by omega) (z_ireturn F rfl B dL_act_118 (zAct.chg I (f_cd_b hO) (d_cd _ _ _) ((g_cd hG _ _ _).mono (by omega)) R2))
  · refine z_tableIn (off := 73) (tgt := 104) F dL_act_31 (by decide +kernel) (by decide +kernel) (by decide +kernel) (by decide) ?_
    refine z_aload_n F dL_act_104 rfl rfl ?_
    refine z_iload_n F dL_act_105 rfl rfl ?_
    refine z_iload F dL_act_106 rfl ?_
    refine z_iload_n F dL_act_108 rfl rfl ?_
    refine zi_bipush F dL_act_109 (by decide) ?_
    refine z_ishr F dL_act_111 ?_
    rw [e6]
    refine zi_bipush F dL_act_112 (by decide) ?_
    refine zi_irem F dL_act_114 (by omega) ?_
    refine z_callSH F B calH_yL_setDepth (w_setDepth ⟨by omega, by omega⟩ ⟨by omega, by omega⟩ ⟨by omega, by omega⟩ R hO (by omega)) dL_act_115 rfl rfl (Nat.le_of_ble_eq_true rfl) (by decide) (by decide) (by decide) ml_L_121 st_yL_setDepth (fun v hX qX => ?_) (fun C h1 q => q.elim)
    obtain ⟨rfl, R2⟩ := qX
    exact Z.widen (by omega) (by omega) (z_ireturn F rfl B dL_act_118 (zAct.chg I (f_cd_b hO) (d_cd _ _ _) ((g_cd hG _ _ _).mono (by omega)) R2))
  · refine z_tableIn (off := 88) (tgt := 119) F dL_act_31 (by decide +kernel) (by decide +kernel) (by decide +kernel) (by decide) ?_
    refine z_aload_n F dL_act_119 rfl rfl ?_
    refine z_iload_n F dL_act_120 rfl rfl ?_
    refine z_iload F dL_act_121 rfl ?_
    refine z_iload_n F dL_act_123 rfl rfl ?_
    refine zi_bipush F dL_act_124 (by decide) ?_
    refine z_ishr F dL_act_126 ?_
    rw [e6]
    refine zi_bipush F dL_act_127 (by decide) ?_
    refine zi_irem F dL_act_129 (by omega) ?_
    refine zi_bipush F dL_act_130 (by decide) ?_
    refine z_iload_n F dL_act_132 rfl rfl ?_
    refine zi_bipush F dL_act_133 (by decide) ?_
    refine z_ishr F dL_act_135 ?_
    rw [e7]
    refine zi_bipush F dL_act_136 (by decide) ?_
    refine zi_irem F dL_act_138 (by omega) ?_
    refine zi_iadd F dL_act_139 ?_
    refine z_callSH F B calH_yL_addLight (w_addLight ⟨by omega, by omega⟩ ⟨by omega, by omega⟩ ⟨by omega, by omega⟩ ⟨by omega, by omega⟩ R hO (by omega)) dL_act_140 rfl rfl (Nat.le_of_ble_eq_true rfl) (by decide) (by decide) (by decide) ml_L_124 st_yL_addLight (fun v hX qX => ?_) (fun C h1 q => q.elim)
    obtain ⟨rfl, R2⟩ := qX
    exact Z.widen (by omega) (by omega) (z_ireturn F rfl B dL_act_143 (zAct.chg I (f_pl_b hO) (d_pl _ _ _ _) ((g_pl hG _ _ _ _).mono (by omega)) R2))
  · refine z_tableIn (off := 113) (tgt := 144) F dL_act_31 (by decide +kernel) (by decide +kernel) (by decide +kernel) (by decide) ?_
    refine z_iload_n F dL_act_144 rfl rfl ?_
    refine zi_bipush F dL_act_145 (by decide) ?_
    refine z_iand F dL_act_147 ?_
    rw [ez64]
    refine zi_if_ne (tgt := 167) F dL_act_148 (by decide) (by first | omega | (dsimp only at *; omega)) (fun c148 => ?_) (fun c148 => ?_)
    · refine z_aload_n F dL_act_167 rfl rfl ?_
      skip
      refine z_iload F dL_act_168 rfl ?_
      refine z_callSH F B calH_yL_removeLight (w_removeLight ⟨by omega, by omega⟩ R hO (by omega)) dL_act_170 rfl rfl (Nat.le_of_ble_eq_true rfl) (by decide) (by decide) (by decide) ml_L_130 st_yL_removeLight (fun v hX qX => ?_) (fun C h1 q => q.elim)
      obtain ⟨rfl, R2⟩ := qX
      exact Z.widen (by omega) (by omega) (z_ireturn F rfl B dL_act_173 (by first | exact zAct.chg I (f_cp_b hO) (d_cp _ _) ((g_cp hG _ _).mono (by omega)) R2 | exact zAct.chg I (f_dl_b hO (by omega)) (d_dl _) ((g_dl hG _).mono (by omega)) R2))
    · refine z_aload_n F dL_act_151 rfl rfl ?_
      refine z_iload F dL_act_152 rfl ?_
      refine z_iload_n F dL_act_154 rfl rfl ?_
      refine zi_bipush F dL_act_155 (by decide) ?_
      refine z_ishr F dL_act_157 ?_
      rw [e7]
      refine zi_bipush F dL_act_158 (by decide) ?_
      refine zi_irem F dL_act_160 (by omega) ?_
      refine z_callSH F B calH_yL_setPhase (w_setPhase ⟨by omega, by omega⟩ ⟨by omega, by omega⟩ R hO (by omega)) dL_act_161 rfl rfl (Nat.le_of_ble_eq_true rfl) (by decide) (by decide) (by decide) ml_L_127 st_yL_setPhase (fun v hX qX => ?_) (fun C h1 q => q.elim)
      obtain ⟨rfl, R2⟩ := qX
      refine z_goto (tgt := 173) F dL_act_164 (by decide) ?_
      exact Z.widen (by omega) (by omega) (z_ireturn F rfl B dL_act_173 (by first | exact zAct.chg I (f_cp_b hO) (d_cp _ _) ((g_cp hG _ _).mono (by omega)) R2 | exact zAct.chg I (f_dl_b hO (by omega)) (d_dl _) ((g_dl hG _).mono (by omega)) R2))
  · refine z_tableIn (off := 143) (tgt := 174) F dL_act_31 (by decide +kernel) (by decide +kernel) (by decide +kernel) (by decide) ?_
    refine z_aload_n F dL_act_174 rfl rfl ?_
    refine z_iload_n F dL_act_175 rfl rfl ?_
    refine z_iload F dL_act_176 rfl ?_
    refine z_iload_n F dL_act_178 rfl rfl ?_
    refine zi_bipush F dL_act_179 (by decide) ?_
    refine z_ishr F dL_act_181 ?_
    rw [e6]
    refine zi_bipush F dL_act_182 (by decide) ?_
    refine zi_irem F dL_act_184 (by omega) ?_
    refine z_callSH F B calH_yL_addShip (w_addShip ⟨by omega, by omega⟩ ⟨by omega, by omega⟩ ⟨by omega, by omega⟩ R hO (by omega)) dL_act_185 rfl rfl (Nat.le_of_ble_eq_true rfl) (by decide) (by decide) (by decide) ml_L_133 st_yL_addShip (fun v hX qX => ?_) (fun C h1 q => q.elim)
    obtain ⟨rfl, R2⟩ := qX
    exact Z.widen (by omega) (by omega) (z_ireturn F rfl B dL_act_188 (zAct.chg I (f_ls_b hO) (d_ls _ _ _) ((g_ls hG _ _ _).mono (by omega)) R2))
  · refine z_tableIn (off := 143) (tgt := 174) F dL_act_31 (by decide +kernel) (by decide +kernel) (by decide +kernel) (by decide) ?_
    refine z_aload_n F dL_act_174 rfl rfl ?_
    refine z_iload_n F dL_act_175 rfl rfl ?_
    refine z_iload F dL_act_176 rfl ?_
    refine z_iload_n F dL_act_178 rfl rfl ?_
    refine zi_bipush F dL_act_179 (by decide) ?_
    refine z_ishr F dL_act_181 ?_
    rw [e6]
    refine zi_bipush F dL_act_182 (by decide) ?_
    refine zi_irem F dL_act_184 (by omega) ?_
    refine z_callSH F B calH_yL_addShip (w_addShip ⟨by omega, by omega⟩ ⟨by omega, by omega⟩ ⟨by omega, by omega⟩ R hO (by omega)) dL_act_185 rfl rfl (Nat.le_of_ble_eq_true rfl) (by decide) (by decide) (by decide) ml_L_133 st_yL_addShip (fun v hX qX => ?_) (fun C h1 q => q.elim)
    obtain ⟨rfl, R2⟩ := qX
    exact Z.widen (by omega) (by omega) (z_ireturn F rfl B dL_act_188 (zAct.chg I (f_ls_b hO) (d_ls _ _ _) ((g_ls hG _ _ _).mono (by omega)) R2))
  · refine z_tableIn (off := 158) (tgt := 189) F dL_act_31 (by decide +kernel) (by decide +kernel) (by decide +kernel) (by decide) ?_
    refine z_aload_n F dL_act_189 rfl rfl ?_
    refine z_iload F dL_act_190 rfl ?_
    refine z_iload_n F dL_act_192 rfl rfl ?_
    refine z_iload F dL_act_193 rfl ?_
    refine z_callSH F B calH_yL_steer (w_steer ⟨by omega, by omega⟩ ⟨by omega, by omega⟩ ⟨by omega, by omega⟩ R hO (by omega)) dL_act_195 rfl rfl (Nat.le_of_ble_eq_true rfl) (by decide) (by decide) (by decide) ml_L_135 st_yL_steer (fun v hX qX => ?_) (fun C h1 q => q.elim)
    obtain ⟨rfl, R2⟩ := qX
    exact Z.widen (by omega) (by omega) (z_ireturn F rfl B dL_act_198 (zAct.chg I (f_cg_b hO) (d_cg _ _ _) ((g_cg hG _ _ _).mono (by omega)) R2))
  · refine z_tableIn (off := 158) (tgt := 189) F dL_act_31 (by decide +kernel) (by decide +kernel) (by decide +kernel) (by decide) ?_
    refine z_aload_n F dL_act_189 rfl rfl ?_
    refine z_iload F dL_act_190 rfl ?_
    refine z_iload_n F dL_act_192 rfl rfl ?_
    refine z_iload F dL_act_193 rfl ?_
    refine z_callSH F B calH_yL_steer (w_steer ⟨by omega, by omega⟩ ⟨by omega, by omega⟩ ⟨by omega, by omega⟩ R hO (by omega)) dL_act_195 rfl rfl (Nat.le_of_ble_eq_true rfl) (by decide) (by decide) (by decide) ml_L_135 st_yL_steer (fun v hX qX => ?_) (fun C h1 q => q.elim)
    obtain ⟨rfl, R2⟩ := qX
    exact Z.widen (by omega) (by omega) (z_ireturn F rfl B dL_act_198 (zAct.chg I (f_cg_b hO) (d_cg _ _ _) ((g_cg hG _ _ _).mono (by omega)) R2))
  · refine z_tableIn (off := 158) (tgt := 189) F dL_act_31 (by decide +kernel) (by decide +kernel) (by decide +kernel) (by decide) ?_
    refine z_aload_n F dL_act_189 rfl rfl ?_
    refine z_iload F dL_act_190 rfl ?_
    refine z_iload_n F dL_act_192 rfl rfl ?_
    refine z_iload F dL_act_193 rfl ?_
    refine z_callSH F B calH_yL_steer (w_steer ⟨by omega, by omega⟩ ⟨by omega, by omega⟩ ⟨by omega, by omega⟩ R hO (by omega)) dL_act_195 rfl rfl (Nat.le_of_ble_eq_true rfl) (by decide) (by decide) (by decide) ml_L_135 st_yL_steer (fun v hX qX => ?_) (fun C h1 q => q.elim)
    obtain ⟨rfl, R2⟩ := qX
    exact Z.widen (by omega) (by omega) (z_ireturn F rfl B dL_act_198 (zAct.chg I (f_cg_b hO) (d_cg _ _ _) ((g_cg hG _ _ _).mono (by omega)) R2))
  · refine z_tableIn (off := 168) (tgt := 199) F dL_act_31 (by decide +kernel) (by decide +kernel) (by decide +kernel) (by decide) ?_
    refine z_iload_n F dL_act_199 rfl rfl ?_
    refine zi_bipush F dL_act_200 (by decide) ?_
    refine z_iand F dL_act_202 ?_
    rw [ez64]
    refine zi_if_ne (tgt := 220) F dL_act_203 (by decide) (by first | omega | (dsimp only at *; omega)) (fun c203 => ?_) (fun c203 => ?_)
    · refine z_aload_n F dL_act_220 rfl rfl ?_
      refine z_iload F dL_act_221 rfl ?_
      refine z_callSH F B calH_yL_salvage (w_salvage ⟨by omega, by omega⟩ R hO (by omega)) dL_act_223 rfl rfl (Nat.le_of_ble_eq_true rfl) (by decide) (by decide) (by decide) ml_L_139 st_yL_salvage (fun v hX qX => ?_) (fun C h1 q => q.elim)
      obtain ⟨rfl, R2⟩ := qX
      exact Z.widen (by omega) (by omega) (z_ireturn F rfl B dL_act_226 (by first | exact zAct.chg I (f_ps_b hO (by omega)) (d_ps _) ((g_ps hG _).mono (by omega)) R2 | exact zAct.chg I (f_sv_b hO) (d_sv _) ((g_sv hG _).mono (by omega)) R2))
    · refine z_aload_n F dL_act_206 rfl rfl ?_
      refine z_iload_n F dL_act_207 rfl rfl ?_
      refine zi_bipush F dL_act_208 (by decide) ?_
      refine z_ishr F dL_act_210 ?_
      rw [e7]
      refine zi_bipush F dL_act_211 (by decide) ?_
      refine zi_irem F dL_act_213 (by omega) ?_
      refine z_callSH F B calH_yL_pass (w_pass ⟨by omega, by omega⟩ R hO (by omega)) dL_act_214 rfl rfl (Nat.le_of_ble_eq_true rfl) (by decide) (by decide) (by decide) ml_L_137 st_yL_pass (fun v hX qX => ?_) (fun C h1 q => q.elim)
      obtain ⟨rfl, R2⟩ := qX
      refine z_goto (tgt := 226) F dL_act_217 (by decide) ?_
      exact Z.widen (by omega) (by omega) (z_ireturn F rfl B dL_act_226 (by first | exact zAct.chg I (f_ps_b hO (by omega)) (d_ps _) ((g_ps hG _).mono (by omega)) R2 | exact zAct.chg I (f_sv_b hO) (d_sv _) ((g_sv hG _).mono (by omega)) R2))
  · refine z_tableIn (off := 168) (tgt := 199) F dL_act_31 (by decide +kernel) (by decide +kernel) (by decide +kernel) (by decide) ?_
    refine z_iload_n F dL_act_199 rfl rfl ?_
    refine zi_bipush F dL_act_200 (by decide) ?_
    refine z_iand F dL_act_202 ?_
    rw [ez64]
    refine zi_if_ne (tgt := 220) F dL_act_203 (by decide) (by first | omega | (dsimp only at *; omega)) (fun c203 => ?_) (fun c203 => ?_)
    · refine z_aload_n F dL_act_220 rfl rfl ?_
      refine z_iload F dL_act_221 rfl ?_
      refine z_callSH F B calH_yL_salvage (w_salvage ⟨by omega, by omega⟩ R hO (by omega)) dL_act_223 rfl rfl (Nat.le_of_ble_eq_true rfl) (by decide) (by decide) (by decide) ml_L_139 st_yL_salvage (fun v hX qX => ?_) (fun C h1 q => q.elim)
      obtain ⟨rfl, R2⟩ := qX
      exact Z.widen (by omega) (by omega) (z_ireturn F rfl B dL_act_226 (by first | exact zAct.chg I (f_ps_b hO (by omega)) (d_ps _) ((g_ps hG _).mono (by omega)) R2 | exact zAct.chg I (f_sv_b hO) (d_sv _) ((g_sv hG _).mono (by omega)) R2))
    · refine z_aload_n F dL_act_206 rfl rfl ?_
      refine z_iload_n F dL_act_207 rfl rfl ?_
      refine zi_bipush F dL_act_208 (by decide) ?_
      refine z_ishr F dL_act_210 ?_
      rw [e7]
      refine zi_bipush F dL_act_211 (by decide) ?_
      refine zi_irem F dL_act_213 (by omega) ?_
      refine z_callSH F B calH_yL_pass (w_pass ⟨by omega, by omega⟩ R hO (by omega)) dL_act_214 rfl rfl (Nat.le_of_ble_eq_true rfl) (by decide) (by decide) (by decide) ml_L_137 st_yL_pass (fun v hX qX => ?_) (fun C h1 q => q.elim)
      obtain ⟨rfl, R2⟩ := qX
      refine z_goto (tgt := 226) F dL_act_217 (by decide) ?_
      exact Z.widen (by omega) (by omega) (z_ireturn F rfl B dL_act_226 (by first | exact zAct.chg I (f_ps_b hO (by omega)) (d_ps _) ((g_ps hG _).mono (by omega)) R2 | exact zAct.chg I (f_sv_b hO) (d_sv _) ((g_sv hG _).mono (by omega)) R2))
  · refine z_tableIn (off := 196) (tgt := 227) F dL_act_31 (by decide +kernel) (by decide +kernel) (by decide +kernel) (by decide) ?_
    refine z_aload_n F dL_act_227 rfl rfl ?_
    refine z_getstatic F gs_L_141 dL_act_228 ?_
    refine z_iload_n F dL_act_231 rfl rfl ?_
    refine z_getstatic F gs_L_141 dL_act_232 ?_
    refine zi_alen F dL_act_235 Bs.2.2.2.2.2.1 (by decide) (by decide) (zar_len _ _) ?_
    refine zi_irem F dL_act_236 (by omega) ?_
    refine zi_aaload (i := (y % 24)) F dL_act_237 Bs.2.2.2.2.2.1 (by decide) (by decide) rfl (by omega) (by omega) (zar_get (by omega)) rfl ?_
    refine z_ro F (fun hro => ?_)
    refine z_callS F B cal_yL_typed (w_typed (k := y % 24) (by omega) Bs I R) dL_act_238 rfl rfl (Nat.le_of_ble_eq_true rfl) (by decide) (by decide) (by decide) ml_L_145 st_yL_typed (fun v hX qX => ?_) (fun C h1 q => q.elim)
    obtain ⟨rfl, R2⟩ := qX
    refine z_ro F (fun hro2 => ?_)
    refine z_callSH F B calH_yL_execute (v_execute (k := y % 24) (by omega) (Bs.cong (fun a ha => by rw [hro2 a ha, hro a ha])) I R2 (by omega)) dL_act_241 rfl rfl (Nat.le_of_ble_eq_true rfl) (by decide) (by decide) (by decide) ml_L_149 st_yL_execute (fun v hX qX => ?_) (fun C h1 q => q.elim)
    obtain ⟨rfl, T', R3⟩ := qX
    exact Z.widen (by omega) (by omega) (z_ireturn F rfl B dL_act_244 ⟨_, f_tx (f_exe S (f_prs (roTxt.getD (y % 24) []) 10 0 [])).1 (T', 0), rfl, exe_b _ (roTxt_prs (y % 24) (by omega)).2.1, ⟨(I.1.exe _ (roTxt_prs (y % 24) (by omega)).2.1).tx (T', 0), rfl⟩, R3, fun q => exe_den _ q⟩)
  · refine z_tableIn (off := 196) (tgt := 227) F dL_act_31 (by decide +kernel) (by decide +kernel) (by decide +kernel) (by decide) ?_
    refine z_aload_n F dL_act_227 rfl rfl ?_
    refine z_getstatic F gs_L_141 dL_act_228 ?_
    refine z_iload_n F dL_act_231 rfl rfl ?_
    refine z_getstatic F gs_L_141 dL_act_232 ?_
    refine zi_alen F dL_act_235 Bs.2.2.2.2.2.1 (by decide) (by decide) (zar_len _ _) ?_
    refine zi_irem F dL_act_236 (by omega) ?_
    refine zi_aaload (i := (y % 24)) F dL_act_237 Bs.2.2.2.2.2.1 (by decide) (by decide) rfl (by omega) (by omega) (zar_get (by omega)) rfl ?_
    refine z_ro F (fun hro => ?_)
    refine z_callS F B cal_yL_typed (w_typed (k := y % 24) (by omega) Bs I R) dL_act_238 rfl rfl (Nat.le_of_ble_eq_true rfl) (by decide) (by decide) (by decide) ml_L_145 st_yL_typed (fun v hX qX => ?_) (fun C h1 q => q.elim)
    obtain ⟨rfl, R2⟩ := qX
    refine z_ro F (fun hro2 => ?_)
    refine z_callSH F B calH_yL_execute (v_execute (k := y % 24) (by omega) (Bs.cong (fun a ha => by rw [hro2 a ha, hro a ha])) I R2 (by omega)) dL_act_241 rfl rfl (Nat.le_of_ble_eq_true rfl) (by decide) (by decide) (by decide) ml_L_149 st_yL_execute (fun v hX qX => ?_) (fun C h1 q => q.elim)
    obtain ⟨rfl, T', R3⟩ := qX
    exact Z.widen (by omega) (by omega) (z_ireturn F rfl B dL_act_244 ⟨_, f_tx (f_exe S (f_prs (roTxt.getD (y % 24) []) 10 0 [])).1 (T', 0), rfl, exe_b _ (roTxt_prs (y % 24) (by omega)).2.1, ⟨(I.1.exe _ (roTxt_prs (y % 24) (by omega)).2.1).tx (T', 0), rfl⟩, R3, fun q => exe_den _ q⟩)
  · refine z_tableIn (off := 196) (tgt := 227) F dL_act_31 (by decide +kernel) (by decide +kernel) (by decide +kernel) (by decide) ?_
    refine z_aload_n F dL_act_227 rfl rfl ?_
    refine z_getstatic F gs_L_141 dL_act_228 ?_
    refine z_iload_n F dL_act_231 rfl rfl ?_
    refine z_getstatic F gs_L_141 dL_act_232 ?_
    refine zi_alen F dL_act_235 Bs.2.2.2.2.2.1 (by decide) (by decide) (zar_len _ _) ?_
    refine zi_irem F dL_act_236 (by omega) ?_
    refine zi_aaload (i := (y % 24)) F dL_act_237 Bs.2.2.2.2.2.1 (by decide) (by decide) rfl (by omega) (by omega) (zar_get (by omega)) rfl ?_
    refine z_ro F (fun hro => ?_)
    refine z_callS F B cal_yL_typed (w_typed (k := y % 24) (by omega) Bs I R) dL_act_238 rfl rfl (Nat.le_of_ble_eq_true rfl) (by decide) (by decide) (by decide) ml_L_145 st_yL_typed (fun v hX qX => ?_) (fun C h1 q => q.elim)
    obtain ⟨rfl, R2⟩ := qX
    refine z_ro F (fun hro2 => ?_)
    refine z_callSH F B calH_yL_execute (v_execute (k := y % 24) (by omega) (Bs.cong (fun a ha => by rw [hro2 a ha, hro a ha])) I R2 (by omega)) dL_act_241 rfl rfl (Nat.le_of_ble_eq_true rfl) (by decide) (by decide) (by decide) ml_L_149 st_yL_execute (fun v hX qX => ?_) (fun C h1 q => q.elim)
    obtain ⟨rfl, T', R3⟩ := qX
    exact Z.widen (by omega) (by omega) (z_ireturn F rfl B dL_act_244 ⟨_, f_tx (f_exe S (f_prs (roTxt.getD (y % 24) []) 10 0 [])).1 (T', 0), rfl, exe_b _ (roTxt_prs (y % 24) (by omega)).2.1, ⟨(I.1.exe _ (roTxt_prs (y % 24) (by omega)).2.1).tx (T', 0), rfl⟩, R3, fun q => exe_den _ q⟩)
  · refine z_tableOut (tgt := 245) F dL_act_31 (by decide +kernel) (by decide) ?_
    refine z_iload_n F dL_act_245 rfl rfl ?_
    refine zi_iconst F dL_act_246 ?_
    refine z_iand F dL_act_247 ?_
    rw [ez3]
    refine zi_if_ne (tgt := 258) F dL_act_248 (by decide) (by first | omega | (dsimp only at *; omega)) (fun c248 => ?_) (fun c248 => ?_)
    · refine z_iload_n F dL_act_258 rfl rfl ?_
      refine zi_iconst F dL_act_259 ?_
      refine z_iand F dL_act_260 ?_
      refine zi_iconst F dL_act_261 ?_
      rw [ez3]
      refine zi_icmp_ne (tgt := 272) F dL_act_262 (by decide) (by first | omega | (dsimp only at *; omega)) (fun c262 => ?_) (fun c262 => ?_)
      · refine z_aload_n F dL_act_272 rfl rfl ?_
        refine z_callSH F B calH_yL_undo (w_undo R hO (by omega)) dL_act_273 rfl rfl (Nat.le_of_ble_eq_true rfl) (by decide) (by decide) (by decide) ml_L_158 st_yL_undo (fun v hX qX => ?_) (fun C h1 q => q.elim)
        have qX : ∃ (a : Int) (S' : zBt), v = some (.int (iI a)) ∧ zI32 a ∧ zInv (K + 21000) S' ∧ zRB o S' hX ∧ (a = -100000000 → S'.1 = S.1) := by rcases qX with ⟨hq, rfl, R3⟩ | ⟨hq, rfl, R3⟩; exact ⟨_, _, rfl, ⟨by omega, by omega⟩, ⟨I.1.undo.mono (by omega), I.2⟩, R3, fun q => by omega⟩; exact ⟨_, _, rfl, ⟨by decide, by decide⟩, I.mono (by omega), R3, fun _ => rfl⟩
        obtain ⟨a, S2, rfl, q1, q2, R2, q3⟩ := qX
        exact Z.widen (by omega) (by omega) (z_ireturn F rfl B dL_act_276 (by first | exact ⟨a, S2, rfl, q1, q2, R2, q3⟩ | exact ⟨_, _, rfl, ⟨by omega, by omega⟩, ⟨I.1.save.mono (by omega), I.2⟩, R2, fun q => by omega⟩))
      · refine z_aload_n F dL_act_265 rfl rfl ?_
        refine z_callSH F B calH_yL_restore (w_restore R hO (by omega)) dL_act_266 rfl rfl (Nat.le_of_ble_eq_true rfl) (by decide) (by decide) (by decide) ml_L_155 st_yL_restore (fun v hX qX => ?_) (fun C h1 q => q.elim)
        have qX : ∃ (a : Int) (S' : zBt), v = some (.int (iI a)) ∧ zI32 a ∧ zInv (K + 21000) S' ∧ zRB o S' hX ∧ (a = -100000000 → S'.1 = S.1) := by rcases qX with ⟨hq, rfl, R3⟩ | ⟨hq, rfl, R3⟩; exact ⟨_, _, rfl, ⟨by have := I.1.2.1.1.2.2.2.2.1; omega, by have := I.1.2.1.1.2.2.2.2.1; omega⟩, ⟨I.1.rest.mono (by omega), I.2⟩, R3, fun q => by omega⟩; exact ⟨_, _, rfl, ⟨by decide, by decide⟩, I.mono (by omega), R3, fun _ => rfl⟩
        obtain ⟨a, S2, rfl, q1, q2, R2, q3⟩ := qX
        refine z_goto (tgt := 276) F dL_act_269 (by decide) ?_
        exact Z.widen (by omega) (by omega) (z_ireturn F rfl B dL_act_276 (by first | exact ⟨a, S2, rfl, q1, q2, R2, q3⟩ | exact ⟨_, _, rfl, ⟨by omega, by omega⟩, ⟨I.1.save.mono (by omega), I.2⟩, R2, fun q => by omega⟩))
    · refine z_aload_n F dL_act_251 rfl rfl ?_
      refine z_callV F B cal_yX10_saveSnapshot (m_saveSnapshot R) dL_act_252 rfl rfl (Nat.le_of_ble_eq_true rfl) (by decide) (by decide) (by decide) ml_L_152 im_yX10_saveSnapshot se_yX10_saveSnapshot R.2.1 (by decide) rfl rfl (fun v hX qX => ?_) (fun C h1 q => q.elim)
      obtain ⟨rfl, R2⟩ := qX
      refine z_goto (tgt := 276) F dL_act_255 (by decide) ?_
      exact Z.widen (by omega) (by omega) (z_ireturn F rfl B dL_act_276 (by first | exact ⟨a, S2, rfl, q1, q2, R2, q3⟩ | exact ⟨_, _, rfl, ⟨by omega, by omega⟩, ⟨I.1.save.mono (by omega), I.2⟩, R2, fun q => by omega⟩))
end
