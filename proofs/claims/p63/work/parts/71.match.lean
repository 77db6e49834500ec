/-! the parser as a function of the text; one pattern -/
def f_dg (tx : List Nat) (p : Nat) : Bool := decide (p < tx.length ∧ 48 ≤ tx.getD p 0 ∧ tx.getD p 0 ≤ 57)
def f_match (tx : List Nat) : List Nat → Nat → List Nat → Option (List Nat) × Nat
  | [], p, acc => (some acc, p)
  | w :: ws, p, acc => if w ≠ 35 ∧ w ≠ 78 then (if p < tx.length ∧ tx.getD p 0 = w then f_match tx ws (p + 1) acc else (none, p)) else
    if f_dg tx p = true then (if w = 78 ∧ f_dg tx (p + 1) = true then f_match tx ws (p + 2) (acc ++ [10 * (tx.getD p 0 - 48) + (tx.getD (p + 1) 0 - 48)]) else f_match tx ws (p + 1) (acc ++ [tx.getD p 0 - 48])) else (none, p)
def cntd : List Nat → Nat
  | [] => 0
  | w :: ws => (if w = 35 ∨ w = 78 then 1 else 0) + cntd ws
theorem f_dg_iff {tx : List Nat} {p : Nat} : f_dg tx p = true ↔ p < tx.length ∧ 48 ≤ tx.getD p 0 ∧ tx.getD p 0 ≤ 57 := by unfold f_dg; exact decide_eq_true_iff
theorem f_match_le (tx : List Nat) : ∀ (ws : List Nat) (p : Nat) (acc : List Nat), p ≤ tx.length → (f_match tx ws p acc).2 ≤ tx.length
  | [], p, acc, h => h
  | w :: ws, p, acc, h => by
    unfold f_match
    split
    · split
      · exact f_match_le tx ws _ _ (by omega)
      · exact h
    · split
      · rename_i hd
        rw [f_dg_iff] at hd
        split
        · rename_i hd2
          rw [f_dg_iff] at hd2
          exact f_match_le tx ws _ _ (by omega)
        · exact f_match_le tx ws _ _ (by omega)
      · exact h
theorem drop_cons {l : List Nat} {i : Nat} (h : i < l.length) : l.drop i = l.getD i 0 :: l.drop (i + 1) := by
  rw [List.drop_eq_getElem_cons h, List.getD_eq_getElem?_getD, List.getElem?_eq_getElem h]
  rfl
theorem zTx.obj {t len cn ps : Nat} {T : Nat → Nat} {Kc : Nat → Nat × (Nat → Nat)} {h : zH} (R : zTx t T len cn ps Kc h) (len' cn' ps' : Nat) : zTx t T len' cn' ps' Kc (h.set t (7, [.ref (t + 1), .ref (t + 2), .int (iI len'), .int (iI cn'), .int (iI ps')])) :=
  ⟨zset_same R.1, zkeep R.2.1 (by omega), zkeep R.2.2.1 (by omega), fun i hi => ⟨zkeep (R.2.2.2 i hi).1 (by omega), zkeep (R.2.2.2 i hi).2.1 (by omega), (R.2.2.2 i hi).2.2⟩⟩
/-- values of command c are written -/
theorem zTx.val {t len cn ps c j w : Nat} {T : Nat → Nat} {Kc : Nat → Nat × (Nat → Nat)} {h : zH} {k : Nat} {Vs : Nat → Nat} (R : zTx t T len cn ps (zup Kc c (k, Vs)) h) (hc : c < 10) : zTx t T len cn ps (zup Kc c (k, zup Vs j w)) (h.set (t + 4 + 2 * c) (100, (zar 4 (fun j => .int (iI (Vs j)))).set j (.int (iI (w : Int))))) := by
  refine ⟨zkeep R.1 (by omega), zkeep R.2.1 (by omega), zkeep R.2.2.1 (by omega), fun i hi => ?_⟩
  have Ri := R.2.2.2 i hi
  by_cases e : i = c
  · subst e
    rw [zup_s] at Ri ⊢
    refine ⟨zkeep Ri.1 (by omega), ?_, Ri.2.2⟩
    rw [zset_same Ri.2.1, zar_set]
    congr 3
    funext q
    by_cases e : q = j
    · subst e; simp [zup]
    · simp [zup, e]
  · rw [zup_n e] at Ri ⊢
    exact ⟨zkeep Ri.1 (by omega), zkeep Ri.2.1 (by omega), Ri.2.2⟩
theorem zup_self {α : Type} (f : Nat → α) (i : Nat) : zup f i (f i) = f := by
  funext j
  unfold zup
  split
  · rename_i e; rw [e]
  · rfl
/-- the signs that stand in the buffer -/
def zIs (T : Nat → Nat) (tx : List Nat) : Prop := tx.length ≤ 60 ∧ ∀ i, i < tx.length → T i = tx.getD i 0 ∧ tx.getD i 0 < 128
/-- a text that nobody writes, among the cells that stand from the start -/
def zSr (s : Nat) (l : List Nat) (h : zH) : Prop := s < zNR ∧ ∃ b, b < zNR ∧ h[s]? = some (0, [.ref b, .int (iI 0)]) ∧ h[b]? = some (104, bys l) ∧ (∀ i, i < l.length → l.getD i 0 < 128) ∧ l.length < 2147483648
theorem zSr.g {s : Nat} {l : List Nat} {h : zH} (R : zSr s l h) : zSg s l h := by
  obtain ⟨_, b, _, h1, h2, h3⟩ := R
  exact ⟨b, h1, h2, h3⟩
theorem zSr.same {s : Nat} {l : List Nat} {h h' : zH} {P : Nat → Prop} (R : zSr s l h) (q : zSame P h h') (hP : ∀ a, a < zNR → ¬ P a) : zSr s l h' := by
  obtain ⟨h0, b, hb, h1, h2, h3⟩ := R
  exact ⟨h0, b, hb, q.get h1 (hP _ h0), q.get h2 (hP _ hb), h3⟩
/-- the cells that stand from the start: kinds, the switch's table, digits, patterns, the law's texts -/
def zRs (h : zH) : Prop := h[0]? = some (109, zar 8 (fun i => .ref (1 + i))) ∧ h[9]? = some (100, zar 8 (fun i => .int (iI (((i + 1) % 8 : Nat) : Int)))) ∧ h[10]? = some (104, zar 100 (fun i => .int (iI ((48 + i % 10 : Nat) : Int)))) ∧ h[11]? = some (104, zar 100 (fun i => .int (iI ((48 + i / 10 : Nat) : Int)))) ∧
  (∀ k, k < 8 → h[12 + k]? = some (0, [.ref (20 + k), .int (iI 0)]) ∧ h[20 + k]? = some (104, bys (roPat.getD k []))) ∧ h[28]? = some (110, zar 24 (fun i => .ref (29 + i))) ∧ ∀ k, k < 24 → h[29 + k]? = some (0, [.ref (53 + k), .int (iI 0)]) ∧ h[53 + k]? = some (104, bys (roTxt.getD k []))
theorem zRs.cong {h h' : zH} (B : zRs h) (e : ∀ a, a < zNR → h'[a]? = h[a]?) : zRs h' := by
  obtain ⟨b0, b1, b2, b3, b4, b5, b6⟩ := B
  have hN : zNR = 100 := rfl
  exact ⟨(e 0 (by omega)).trans b0, (e 9 (by omega)).trans b1, (e 10 (by omega)).trans b2, (e 11 (by omega)).trans b3, fun k hk => ⟨(e _ (by omega)).trans (b4 k hk).1, (e _ (by omega)).trans (b4 k hk).2⟩, (e 28 (by omega)).trans b5, fun k hk => ⟨(e _ (by omega)).trans (b6 k hk).1, (e _ (by omega)).trans (b6 k hk).2⟩⟩
theorem zRs.len {h : zH} (B : zRs h) : 77 ≤ h.length := by
  have := (List.getElem?_eq_some_iff.mp (B.2.2.2.2.2.2 23 (by decide)).2).1
  omega
theorem zRs.same {h h' : zH} {P : Nat → Prop} (B : zRs h) (q : zSame P h h') (hP : ∀ a, a < zNR → ¬ P a) : zRs h' := by
  obtain ⟨b0, b1, b2, b3, b4, b5, b6⟩ := B
  have hN : zNR = 100 := rfl
  exact ⟨q.get b0 (hP _ (by omega)), q.get b1 (hP _ (by omega)), q.get b2 (hP _ (by omega)), q.get b3 (hP _ (by omega)), fun k hk => ⟨q.get (b4 k hk).1 (hP _ (by omega)), q.get (b4 k hk).2 (hP _ (by omega))⟩, q.get b5 (hP _ (by omega)), fun k hk => ⟨q.get (b6 k hk).1 (hP _ (by omega)), q.get (b6 k hk).2 (hP _ (by omega))⟩⟩
section
variable {t cn ps : Nat} {T : Nat → Nat} {tx : List Nat} {Kc : Nat → Nat × (Nat → Nat)} {h : zH}
theorem m_isAtDigit (R : zTx t T tx.length cn ps Kc h) (I : zIs T tx) (hp : ps < 1000) : zMet yX5_isAtDigit cX5_isAtDigit 1 (some .boolean) 1 0 0 [.ref t] h (fun v h' => v = some (.int (iI (zBo (f_dg tx ps)))) ∧ h' = h) (fun _ _ => False) := by
  refine zMet.go (by decide +kernel) (Nat.le_of_ble_eq_true rfl) ?_
  intro X F B hnl hR hn
  have I1 := I.1
  have I2 := I.2 ps
  refine z_aload_n F dX5_isAtDigit_0 rfl rfl ?_
  refine z_getfield F fl_X5_22 dX5_isAtDigit_1 R.1 (by decide) rfl ?_
  refine z_aload_n F dX5_isAtDigit_4 rfl rfl ?_
  refine z_getfield F fl_X5_33 dX5_isAtDigit_5 R.1 (by decide) rfl ?_
  refine zi_icmp_ge (tgt := 43) F dX5_isAtDigit_8 (by decide) (by first | omega | (dsimp only at *; omega)) (fun c8 => ?_) (fun c8 => ?_)
  · refine zi_iconst F dX5_isAtDigit_43 ?_
    exact Z.widen (by decide) (by decide) (z_ireturn F rfl B dX5_isAtDigit_44 ⟨by unfold f_dg; first | (rw [decide_eq_true (by omega)]; rfl) | (rw [decide_eq_false (by omega)]; rfl), rfl⟩)
  · have I3 := I2 (by omega)
    refine z_aload_n F dX5_isAtDigit_11 rfl rfl ?_
    refine z_getfield F fl_X5_9 dX5_isAtDigit_12 R.1 (by decide) rfl ?_
    refine z_aload_n F dX5_isAtDigit_15 rfl rfl ?_
    refine z_getfield F fl_X5_22 dX5_isAtDigit_16 R.1 (by decide) rfl ?_
    refine zi_caload (i := ps) F dX5_isAtDigit_19 R.2.1 rfl (by omega) (zar_get (by omega)) ?_
    rw [I3.1]
    refine zi_bipush F dX5_isAtDigit_20 (by decide) ?_
    refine zi_icmp_lt (tgt := 43) F dX5_isAtDigit_22 (by decide) (by first | omega | (dsimp only at *; omega)) (fun c22 => ?_) (fun c22 => ?_)
    · refine zi_iconst F dX5_isAtDigit_43 ?_
      exact Z.widen (by decide) (by decide) (z_ireturn F rfl B dX5_isAtDigit_44 ⟨by unfold f_dg; first | (rw [decide_eq_true (by omega)]; rfl) | (rw [decide_eq_false (by omega)]; rfl), rfl⟩)
    · refine z_aload_n F dX5_isAtDigit_25 rfl rfl ?_
      refine z_getfield F fl_X5_9 dX5_isAtDigit_26 R.1 (by decide) rfl ?_
      refine z_aload_n F dX5_isAtDigit_29 rfl rfl ?_
      refine z_getfield F fl_X5_22 dX5_isAtDigit_30 R.1 (by decide) rfl ?_
      refine zi_caload (i := ps) F dX5_isAtDigit_33 R.2.1 rfl (by omega) (zar_get (by omega)) ?_
      rw [I3.1]
      refine zi_bipush F dX5_isAtDigit_34 (by decide) ?_
      refine zi_icmp_gt (tgt := 43) F dX5_isAtDigit_36 (by decide) (by first | omega | (dsimp only at *; omega)) (fun c36 => ?_) (fun c36 => ?_)
      · refine zi_iconst F dX5_isAtDigit_43 ?_
        exact Z.widen (by decide) (by decide) (z_ireturn F rfl B dX5_isAtDigit_44 ⟨by unfold f_dg; first | (rw [decide_eq_true (by omega)]; rfl) | (rw [decide_eq_false (by omega)]; rfl), rfl⟩)
      · refine zi_iconst F dX5_isAtDigit_39 ?_
        refine z_goto (tgt := 44) F dX5_isAtDigit_40 (by decide) ?_
        exact Z.widen (by decide) (by decide) (z_ireturn F rfl B dX5_isAtDigit_44 ⟨by unfold f_dg; first | (rw [decide_eq_true (by omega)]; rfl) | (rw [decide_eq_false (by omega)]; rfl), rfl⟩)
theorem m_takeDigit (hz : zNR ≤ t) (R : zTx t T tx.length cn ps Kc h) (I : zIs T tx) (hd : f_dg tx ps = true) : zMet yX5_takeDigit cX5_takeDigit 2 (some .int) 1 0 0 [.ref t] h (fun v h' => v = some (.int (iI ((tx.getD ps 0 - 48 : Nat) : Int))) ∧ zTx t T tx.length cn (ps + 1) Kc h' ∧ zSame (zIn t 23) h h') (fun _ _ => False) := by
  refine zMet.go (by decide +kernel) (Nat.le_of_ble_eq_true rfl) ?_
  intro X F B hnl hR hn
  rw [f_dg_iff] at hd
  have I1 := I.1
  have I3 := I.2 ps (by omega)
  refine z_aload_n F dX5_takeDigit_0 rfl rfl ?_
  refine z_getfield F fl_X5_9 dX5_takeDigit_1 R.1 (by decide) rfl ?_
  refine z_aload_n F dX5_takeDigit_4 rfl rfl ?_
  refine z_getfield F fl_X5_22 dX5_takeDigit_5 R.1 (by decide) rfl ?_
  refine zi_caload (i := ps) F dX5_takeDigit_8 R.2.1 rfl (by omega) (zar_get (by omega)) ?_
  rw [I3.1]
  refine zi_bipush F dX5_takeDigit_9 (by decide) ?_
  refine zi_isub F dX5_takeDigit_11 ?_
  rw [show ((tx.getD ps 0 : Nat) : Int) - 48 = ((tx.getD ps 0 - 48 : Nat) : Int) by omega]
  refine z_istore_n F dX5_takeDigit_12 rfl rfl (hnl _ rfl) ?_
  refine z_aload_n F dX5_takeDigit_13 rfl rfl ?_
  refine z_dup F dX5_takeDigit_14 rfl ?_
  refine z_getfield F fl_X5_22 dX5_takeDigit_15 R.1 (by decide) rfl ?_
  refine zi_iconst F dX5_takeDigit_18 ?_
  refine zi_iadd F dX5_takeDigit_19 ?_
  refine z_putfield F fp_X5_22 dX5_takeDigit_20 (zmut_of F (by omega)) R.1 (by decide) (Nat.le_of_ble_eq_true rfl) ⟨rfl, rfl⟩ ?_
  refine z_iload_n F dX5_takeDigit_23 rfl rfl ?_
  exact Z.widen (by decide) (by decide) (z_ireturn F rfl B dX5_takeDigit_24 ⟨rfl, R.obj tx.length cn (ps + 1), zSame.rf.set ⟨by omega, by omega⟩⟩)
theorem m_matches {s c : Nat} {pt : List Nat} (hz : zNR ≤ t) (hc : c < 10) (G : zSr s pt h) (hp4 : cntd pt ≤ 4) (R : zTx t T tx.length cn ps Kc h) (I : zIs T tx) (hps : ps ≤ tx.length) {r : Option (List Nat) × Nat} (hr : f_match tx pt ps [] = r) : zMet yX5_matches cX5_matches 7 (some .boolean) 5 0 0 [.ref t, .ref s, .ref (t + 4 + 2 * c)] h (fun v h' => v = some (.int (iI (zBo r.1.isSome))) ∧ (∃ Vs, zTx t T tx.length cn r.2 (zup Kc c ((Kc c).1, Vs)) h' ∧ ∀ l, r.1 = some l → ∀ j, j < l.length → Vs j = l.getD j 0) ∧ zSame (zIn t 23) h h') (fun _ _ => False) := by
  refine zMet.go (by decide +kernel) (Nat.le_of_ble_eq_true rfl) ?_
  intro X F B hnl hR hn
  have I1 := I.1
  have hlt : pt.length < 2147483648 := by obtain ⟨_, b, _, _, _, _, q⟩ := G; exact q
  have hl128 : ∀ i, i < pt.length → pt.getD i 0 < 128 := by obtain ⟨_, b, _, _, _, q, _⟩ := G; exact q
  have hGs : ∀ h1, zSame (zIn t 23) h h1 → zSr s pt h1 := fun h1 q => G.same q (fun a ha g => by have := g.1; omega)
  suffices KK : ∀ (n i p : Nat) (acc : List Nat) (Vs : Nat → Nat) (h1 : zH), n + i = pt.length → p ≤ tx.length → acc.length + cntd (pt.drop i) ≤ 4 → (∀ j, j < acc.length → Vs j = acc.getD j 0) → f_match tx (pt.drop i) p acc = r → zTx t T tx.length cn p (zup Kc c ((Kc c).1, Vs)) h1 → zSame (zIn t 23) h h1 → Z X 0 0 5 [(4, .int (iI (i : Int))), (3, .int (iI (acc.length : Int))), (0, .ref t), (1, .ref s), (2, .ref (t + 4 + 2 * c))] [] h1 by
    refine zi_iconst F dX5_matches_0 ?_
    refine z_istore_n F dX5_matches_1 rfl rfl (hnl _ rfl) ?_
    refine zi_iconst F dX5_matches_2 ?_
    refine z_istore F dX5_matches_3 rfl (hnl _ rfl) ?_
    exact Z.keys [4, 3, 0, 1, 2] rfl (KK pt.length 0 ps [] (Kc c).2 h rfl hps (by simpa using hp4) (fun j hj => absurd hj (by simp)) hr (by rw [show ((Kc c).1, (Kc c).2) = Kc c from rfl, zup_self]; exact R) zSame.rf)
  intro n
  induction n with
  | zero =>
    intro i p acc Vs h1 hi hp ha hV hm R1 s1
    have G1 := hGs h1 s1
    have e : pt.drop i = [] := List.drop_eq_nil_of_le (by omega)
    rw [e] at hm
    have hm2 : (some acc, p) = r := hm
    refine z_iload F dX5_matches_5 rfl ?_
    refine z_aload_n F dX5_matches_7 rfl rfl ?_
    refine z_callV F B cal_yJ0_length_8abf5 (m_strlen G1.g) dX5_matches_8 rfl rfl (Nat.le_of_ble_eq_true rfl) (by decide) (by decide) (by decide) ml_X5_64 im_yJ0_length_8abf5 se_yJ0_length_8abf5 G1.g.choose_spec.1 (by decide) rfl rfl (fun v hX qX => ?_) (fun C h1 q => q.elim)
    obtain ⟨rfl, qX⟩ := qX
    rw [qX]
    clear qX hX
    refine zi_icmp_ge (tgt := 136) F dX5_matches_11 (by decide) (by first | omega | (dsimp only at *; omega)) (fun c11 => ?_) (fun c11 => False.elim (by first | omega | (dsimp only at *; omega)))
    refine zi_iconst F dX5_matches_136 ?_
    exact Z.widen (by decide) (by decide) (z_ireturn F rfl B dX5_matches_137 ⟨by rw [← hm2]; rfl, ⟨Vs, by rw [← hm2]; exact R1, by rw [← hm2]; intro l hl j hj; have hl : some acc = some l := hl; cases hl; exact hV j hj⟩, s1⟩)
  | succ n ih =>
    intro i p acc Vs h1 hi hp ha hV hm R1 s1
    have G1 := hGs h1 s1
    have hil : i < pt.length := by omega
    rw [drop_cons hil] at hm ha
    have hw := hl128 i hil
    generalize hwe : pt.getD i 0 = w at hm ha hw
    unfold f_match at hm
    unfold cntd at ha
    have hno : ∀ (h2 : zH), (none, p) = r → zTx t T tx.length cn p (zup Kc c ((Kc c).1, Vs)) h2 → zSame (zIn t 23) h h2 → (some (Value.int (iI 0)) = some (.int (iI (zBo r.1.isSome))) ∧ (∃ Vs, zTx t T tx.length cn r.2 (zup Kc c ((Kc c).1, Vs)) h2 ∧ ∀ l, r.1 = some l → ∀ j, j < l.length → Vs j = l.getD j 0) ∧ zSame (zIn t 23) h h2) := fun h2 e R2 s2 => ⟨by rw [← e]; rfl, ⟨Vs, by rw [← e]; exact R2, by rw [← e]; intro l hl; cases hl⟩, s2⟩
    have hdig : (w = 35 ∨ w = 78) → Z X 0 0 76 [(5, .int (iI (w : Int))), (4, .int (iI (i : Int))), (3, .int (iI (acc.length : Int))), (0, .ref t), (1, .ref s), (2, .ref (t + 4 + 2 * c))] [] h1 := by
      intro hw2
      rw [if_neg (by omega)] at hm
      rw [if_pos hw2] at ha
      have hst : ∀ (a q : Nat) (h2 : zH), q ≤ tx.length → f_match tx (pt.drop (i + 1)) q (acc ++ [a]) = r → zTx t T tx.length cn q (zup Kc c ((Kc c).1, Vs)) h2 → zSame (zIn t 23) h h2 → Z X 0 0 117 [(6, .int (iI (a : Int))), (5, .int (iI (w : Int))), (4, .int (iI (i : Int))), (3, .int (iI (acc.length : Int))), (0, .ref t), (1, .ref s), (2, .ref (t + 4 + 2 * c))] [] h2 := by
        intro a q h2 hq hm2 R2 s2
        have e2 := (R2.2.2.2 c hc).2.1
        rw [zup_s] at e2
        have el : (acc ++ [a]).length = acc.length + 1 := List.length_append
        have hVn : ∀ j, j < (acc ++ [a]).length → zup Vs acc.length a j = (acc ++ [a]).getD j 0 := by
          intro j hj
          rw [el] at hj
          by_cases e9 : j = acc.length
          · subst e9
            rw [zup_s, List.getD_eq_getElem?_getD, List.getElem?_append_right (Nat.le_refl _), Nat.sub_self]
            rfl
          · rw [zup_n e9, hV j (by omega), List.getD_eq_getElem?_getD, List.getD_eq_getElem?_getD, List.getElem?_append_left (by omega)]
        refine z_iload_n F dX5_matches_117 rfl rfl ?_
        refine zi_iconst F dX5_matches_118 ?_
        refine zi_icmp_ge (tgt := 130) F dX5_matches_119 (by decide) (by first | omega | (dsimp only at *; omega)) (fun c119 => False.elim (by first | omega | (dsimp only at *; omega))) (fun c119 => ?_)
        refine z_aload_n F dX5_matches_122 rfl rfl ?_
        refine z_iload_n F dX5_matches_123 rfl rfl ?_
        refine z_iload F dX5_matches_124 rfl ?_
        refine zi_iastore (i := acc.length) F dX5_matches_126 (zmut_of F (by omega)) e2 rfl (by rw [zar_len]; omega) ?_
        refine zi_iinc F dX5_matches_127 rfl rfl (hnl _ rfl) ?_
        refine zi_iinc F dX5_matches_130 rfl rfl (hnl _ rfl) ?_
        refine z_goto (tgt := 5) F dX5_matches_133 (by decide) ?_
        exact Z.keys [4, 3, 0, 1, 2] rfl (by have K9 := ih (i + 1) q (acc ++ [a]) (zup Vs acc.length a) _ (by omega) hq (by rw [el]; omega) hVn hm2 (R2.val (j := acc.length) (w := a) hc) (s2.set ⟨by omega, by omega⟩); rw [el] at K9; exact K9)
      cases hd1 : f_dg tx p with
      | false =>
        rw [hd1, if_neg (by decide)] at hm
        refine z_aload_n F dX5_matches_76 rfl rfl ?_
        refine z_callV F B cal_yX5_isAtDigit (m_isAtDigit R1 I (by omega)) dX5_matches_77 rfl rfl (Nat.le_of_ble_eq_true rfl) (by decide) (by decide) (by decide) ml_X5_73 im_yX5_isAtDigit se_yX5_isAtDigit R1.1 (by decide) rfl rfl (fun v hX qX => ?_) (fun C h1 q => q.elim)
        obtain ⟨rfl, qX⟩ := qX
        rw [qX]
        clear qX hX
        rw [hd1, show zBo false = 0 from rfl]
        refine zi_if_ne (tgt := 85) F dX5_matches_80 (by decide) (by first | omega | (dsimp only at *; omega)) (fun c80 => False.elim (by first | omega | (dsimp only at *; omega))) (fun c80 => ?_)
        refine zi_iconst F dX5_matches_83 ?_
        exact Z.widen (by decide) (by decide) (z_ireturn F rfl B dX5_matches_84 (hno _ hm R1 s1))
      | true =>
        rw [if_pos hd1] at hm
        have hd1' := hd1
        rw [f_dg_iff] at hd1'
        refine z_aload_n F dX5_matches_76 rfl rfl ?_
        refine z_callV F B cal_yX5_isAtDigit (m_isAtDigit R1 I (by omega)) dX5_matches_77 rfl rfl (Nat.le_of_ble_eq_true rfl) (by decide) (by decide) (by decide) ml_X5_73 im_yX5_isAtDigit se_yX5_isAtDigit R1.1 (by decide) rfl rfl (fun v hX qX => ?_) (fun C h1 q => q.elim)
        obtain ⟨rfl, qX⟩ := qX
        rw [qX]
        clear qX hX
        rw [hd1, show zBo true = 1 from rfl]
        refine zi_if_ne (tgt := 85) F dX5_matches_80 (by decide) (by first | omega | (dsimp only at *; omega)) (fun c80 => ?_) (fun c80 => False.elim (by first | omega | (dsimp only at *; omega)))
        refine z_aload_n F dX5_matches_85 rfl rfl ?_
        refine z_callV F B cal_yX5_takeDigit (m_takeDigit hz R1 I hd1) dX5_matches_86 rfl rfl (Nat.le_of_ble_eq_true rfl) (by decide) (by decide) (by decide) ml_X5_77 im_yX5_takeDigit se_yX5_takeDigit R1.1 (by decide) rfl rfl (fun v hX qX => ?_) (fun C h1 q => q.elim)
        obtain ⟨rfl, R2, s2⟩ := qX
        have s2 := s1.tr s2
        refine z_istore F dX5_matches_89 rfl (hnl _ rfl) ?_
        refine z_iload F dX5_matches_91 rfl ?_
        refine zi_bipush F dX5_matches_93 (by decide) ?_
        refine zi_icmp_ne (tgt := 117) F dX5_matches_95 (by decide) (by omega) (fun c95 => ?_) (fun c95 => ?_)
        · rw [if_neg (by omega)] at hm
          exact hst _ _ _ (by omega) hm R2 s2
        · have hw8 : w = 78 := by omega
          cases hd2 : f_dg tx (p + 1) with
          | false =>
            rw [if_neg (by rw [hd2]; exact fun q => absurd q.2 (by decide))] at hm
            refine z_aload_n F dX5_matches_98 rfl rfl ?_
            refine z_callV F B cal_yX5_isAtDigit (m_isAtDigit R2 I (by omega)) dX5_matches_99 rfl rfl (Nat.le_of_ble_eq_true rfl) (by decide) (by decide) (by decide) ml_X5_73 im_yX5_isAtDigit se_yX5_isAtDigit R2.1 (by decide) rfl rfl (fun v hX qX => ?_) (fun C h1 q => q.elim)
            obtain ⟨rfl, qX⟩ := qX
            rw [qX]
            clear qX hX
            rw [hd2, show zBo false = 0 from rfl]
            refine zi_if_eq (tgt := 117) F dX5_matches_102 (by decide) (by first | omega | (dsimp only at *; omega)) (fun c102 => ?_) (fun c102 => False.elim (by first | omega | (dsimp only at *; omega)))
            exact hst _ _ _ (by omega) hm R2 s2
          | true =>
            rw [if_pos ⟨hw8, hd2⟩] at hm
            have hd2' := hd2
            rw [f_dg_iff] at hd2'
            refine z_aload_n F dX5_matches_98 rfl rfl ?_
            refine z_callV F B cal_yX5_isAtDigit (m_isAtDigit R2 I (by omega)) dX5_matches_99 rfl rfl (Nat.le_of_ble_eq_true rfl) (by decide) (by decide) (by decide) ml_X5_73 im_yX5_isAtDigit se_yX5_isAtDigit R2.1 (by decide) rfl rfl (fun v hX qX => ?_) (fun C h1 q => q.elim)
            obtain ⟨rfl, qX⟩ := qX
            rw [qX]
            clear qX hX
            rw [hd2, show zBo true = 1 from rfl]
            refine zi_if_eq (tgt := 117) F dX5_matches_102 (by decide) (by first | omega | (dsimp only at *; omega)) (fun c102 => False.elim (by first | omega | (dsimp only at *; omega))) (fun c102 => ?_)
            refine zi_bipush F dX5_matches_105 (by decide) ?_
            refine z_iload F dX5_matches_107 rfl ?_
            refine zi_imul F dX5_matches_109 ?_
            refine z_aload_n F dX5_matches_110 rfl rfl ?_
            refine z_callV F B cal_yX5_takeDigit (m_takeDigit hz R2 I hd2) dX5_matches_111 rfl rfl (Nat.le_of_ble_eq_true rfl) (by decide) (by decide) (by decide) ml_X5_77 im_yX5_takeDigit se_yX5_takeDigit R2.1 (by decide) rfl rfl (fun v hX qX => ?_) (fun C h1 q => q.elim)
            obtain ⟨rfl, R3, s3⟩ := qX
            have s3 := s2.tr s3
            refine zi_iadd F dX5_matches_114 ?_
            rw [show (10 : Int) * ((tx.getD p 0 - 48 : Nat) : Int) + ((tx.getD (p + 1) 0 - 48 : Nat) : Int) = ((10 * (tx.getD p 0 - 48) + (tx.getD (p + 1) 0 - 48) : Nat) : Int) by omega]
            refine z_istore F dX5_matches_115 rfl (hnl _ rfl) ?_
            exact Z.keys [6, 5, 4, 3, 0, 1, 2] rfl (hst _ _ _ (by omega) hm R3 s3)
    refine z_iload F dX5_matches_5 rfl ?_
    refine z_aload_n F dX5_matches_7 rfl rfl ?_
    refine z_callV F B cal_yJ0_length_8abf5 (m_strlen G1.g) dX5_matches_8 rfl rfl (Nat.le_of_ble_eq_true rfl) (by decide) (by decide) (by decide) ml_X5_64 im_yJ0_length_8abf5 se_yJ0_length_8abf5 G1.g.choose_spec.1 (by decide) rfl rfl (fun v hX qX => ?_) (fun C h1 q => q.elim)
    obtain ⟨rfl, qX⟩ := qX
    rw [qX]
    clear qX hX
    refine zi_icmp_ge (tgt := 136) F dX5_matches_11 (by decide) (by first | omega | (dsimp only at *; omega)) (fun c11 => False.elim (by first | omega | (dsimp only at *; omega))) (fun c11 => ?_)
    refine z_aload_n F dX5_matches_14 rfl rfl ?_
    refine z_iload F dX5_matches_15 rfl ?_
    refine z_callV F B cal_yJ0_charAt_5068e (m_charAt G1.g hil) dX5_matches_17 rfl rfl (Nat.le_of_ble_eq_true rfl) (by decide) (by decide) (by decide) ml_X5_69 im_yJ0_charAt_5068e se_yJ0_charAt_5068e G1.g.choose_spec.1 (by decide) rfl rfl (fun v hX qX => ?_) (fun C h1 q => q.elim)
    obtain ⟨rfl, qX⟩ := qX
    rw [qX]
    clear qX hX
    rw [hwe]
    refine z_istore F dX5_matches_20 rfl (hnl _ rfl) ?_
    refine z_iload F dX5_matches_22 rfl ?_
    refine zi_bipush F dX5_matches_24 (by decide) ?_
    refine zi_icmp_eq (tgt := 76) F dX5_matches_26 (by decide) (by first | omega | (dsimp only at *; omega)) (fun c26 => ?_) (fun c26 => ?_)
    · exact Z.keys [5, 4, 3, 0, 1, 2] rfl (hdig (by omega))
    · refine z_iload F dX5_matches_29 rfl ?_
      refine zi_bipush F dX5_matches_31 (by decide) ?_
      refine zi_icmp_eq (tgt := 76) F dX5_matches_33 (by decide) (by first | omega | (dsimp only at *; omega)) (fun c33 => ?_) (fun c33 => ?_)
      · exact Z.keys [5, 4, 3, 0, 1, 2] rfl (hdig (by omega))
      · rw [if_pos (by omega)] at hm
        rw [if_neg (by omega)] at ha
        refine z_aload_n F dX5_matches_36 rfl rfl ?_
        refine z_getfield F fl_X5_22 dX5_matches_37 R1.1 (by decide) rfl ?_
        refine z_aload_n F dX5_matches_40 rfl rfl ?_
        refine z_getfield F fl_X5_33 dX5_matches_41 R1.1 (by decide) rfl ?_
        refine zi_icmp_ge (tgt := 61) F dX5_matches_44 (by decide) (by first | omega | (dsimp only at *; omega)) (fun c44 => ?_) (fun c44 => ?_)
        · rw [if_neg (by omega)] at hm
          refine zi_iconst F dX5_matches_61 ?_
          exact Z.widen (by decide) (by decide) (z_ireturn F rfl B dX5_matches_62 (hno _ hm R1 s1))
        · have I3 := I.2 p (by omega)
          refine z_aload_n F dX5_matches_47 rfl rfl ?_
          refine z_getfield F fl_X5_9 dX5_matches_48 R1.1 (by decide) rfl ?_
          refine z_aload_n F dX5_matches_51 rfl rfl ?_
          refine z_getfield F fl_X5_22 dX5_matches_52 R1.1 (by decide) rfl ?_
          refine zi_caload (i := p) F dX5_matches_55 R1.2.1 rfl (by omega) (zar_get (by omega)) ?_
          rw [I3.1]
          refine z_iload F dX5_matches_56 rfl ?_
          refine zi_icmp_eq (tgt := 63) F dX5_matches_58 (by decide) (by first | omega | (dsimp only at *; omega)) (fun c58 => ?_) (fun c58 => ?_)
          · rw [if_pos (by omega)] at hm
            refine z_aload_n F dX5_matches_63 rfl rfl ?_
            refine z_dup F dX5_matches_64 rfl ?_
            refine z_getfield F fl_X5_22 dX5_matches_65 R1.1 (by decide) rfl ?_
            refine zi_iconst F dX5_matches_68 ?_
            refine zi_iadd F dX5_matches_69 ?_
            refine z_putfield F fp_X5_22 dX5_matches_70 (zmut_of F (by omega)) R1.1 (by decide) (Nat.le_of_ble_eq_true rfl) ⟨rfl, rfl⟩ ?_
            refine z_goto (tgt := 130) F dX5_matches_73 (by decide) ?_
            refine zi_iinc F dX5_matches_130 rfl rfl (hnl _ rfl) ?_
            refine z_goto (tgt := 5) F dX5_matches_133 (by decide) ?_
            exact Z.keys [4, 3, 0, 1, 2] rfl (ih (i + 1) (p + 1) acc Vs _ (by omega) (by omega) (by omega) hV hm (R1.obj tx.length cn (p + 1)) (s1.set ⟨by omega, by omega⟩))
          · rw [if_neg (by omega)] at hm
            refine zi_iconst F dX5_matches_61 ?_
            exact Z.widen (by decide) (by decide) (z_ireturn F rfl B dX5_matches_62 (hno _ hm R1 s1))
end
