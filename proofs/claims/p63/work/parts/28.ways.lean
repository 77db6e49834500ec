/-! ways: which cells are open, lengths, the breadth-first search as the class does it -/
/-- open, lengths, first cells, queue -/
def zWy (w : Nat) (op : Nat → Bool) (ln : Nat → Option Nat) (fc qu : Nat → Nat) (h : zH) : Prop :=
  h[w]? = some (11, [.ref (w + 1), .ref (w + 2), .ref (w + 3), .ref (w + 4)]) ∧ h[w + 1]? = some (102, zar 64 (fun c => .int (iI (zBo (op c))))) ∧ h[w + 2]? = some (100, zar 64 (fun c => .int (iI (zGo (ln c))))) ∧ h[w + 3]? = some (100, zar 64 (fun c => .int (iI (fc c)))) ∧ h[w + 4]? = some (100, zar 64 (fun c => .int (iI (qu c))))
theorem zWy.same {w : Nat} {op : Nat → Bool} {ln : Nat → Option Nat} {fc qu : Nat → Nat} {h h' : zH} {S : Nat → Prop} (R : zWy w op ln fc qu h) (s : zSame S h h') (hS : ∀ a, w ≤ a → a < w + 5 → ¬ S a) : zWy w op ln fc qu h' := by
  obtain ⟨h1, h2, h3, h4, h5⟩ := R
  exact ⟨s.get h1 (hS _ (by omega) (by omega)), s.get h2 (hS _ (by omega) (by omega)), s.get h3 (hS _ (by omega) (by omega)), s.get h4 (hS _ (by omega) (by omega)), s.get h5 (hS _ (by omega) (by omega))⟩
theorem zar_up {α : Type} (n k : Nat) (g : α → Value) (f : Nat → α) (v : α) : (zar n (fun c => g (f c))).set k (g v) = zar n (fun c => g (zup f k v c)) := by
  rw [zar_set]
  refine zar_congr fun c hc => ?_
  by_cases e : c = k
  · subst e; rw [zup_s, zup_s]
  · rw [zup_n e, zup_n e]
section
variable {w b : Nat} {op : Nat → Bool} {ln : Nat → Option Nat} {fc qu : Nat → Nat} {σ τ : Nat → Nat} {C : zCo} {h : zH} {K : Nat}
theorem zWy.putO (R : zWy w op ln fc qu h) (k : Nat) (v : Bool) {x : Int32} (e : x = iI (zBo v)) : zWy w (zup op k v) ln fc qu (h.set (w + 1) (102, (zar 64 (fun c => .int (iI (zBo (op c))))).set k (.int x))) := by
  obtain ⟨h1, h2, h3, h4, h5⟩ := R
  subst e
  exact ⟨zkeep h1 (by omega), by rw [zset_same h2, zar_up 64 k (fun v => .int (iI (zBo v)))], zkeep h3 (by omega), zkeep h4 (by omega), zkeep h5 (by omega)⟩
theorem zWy.putL (R : zWy w op ln fc qu h) (k : Nat) (v : Option Nat) {x : Int32} (e : x = iI (zGo v)) : zWy w op (zup ln k v) fc qu (h.set (w + 2) (100, (zar 64 (fun c => .int (iI (zGo (ln c))))).set k (.int x))) := by
  obtain ⟨h1, h2, h3, h4, h5⟩ := R
  subst e
  exact ⟨zkeep h1 (by omega), zkeep h2 (by omega), by rw [zset_same h3, zar_up 64 k (fun v => .int (iI (zGo v)))], zkeep h4 (by omega), zkeep h5 (by omega)⟩
theorem zWy.putF (R : zWy w op ln fc qu h) (k : Nat) (v : Nat) {x : Int32} (e : x = iI v) : zWy w op ln (zup fc k v) qu (h.set (w + 3) (100, (zar 64 (fun c => .int (iI (fc c)))).set k (.int x))) := by
  obtain ⟨h1, h2, h3, h4, h5⟩ := R
  subst e
  exact ⟨zkeep h1 (by omega), zkeep h2 (by omega), zkeep h3 (by omega), by rw [zset_same h4, zar_up 64 k (fun (v : Nat) => .int (iI v))], zkeep h5 (by omega)⟩
theorem zWy.putQ (R : zWy w op ln fc qu h) (k : Nat) (v : Nat) {x : Int32} (e : x = iI v) : zWy w op ln fc (zup qu k v) (h.set (w + 4) (100, (zar 64 (fun c => .int (iI (qu c)))).set k (.int x))) := by
  obtain ⟨h1, h2, h3, h4, h5⟩ := R
  subst e
  exact ⟨zkeep h1 (by omega), zkeep h2 (by omega), zkeep h3 (by omega), zkeep h4 (by omega), by rw [zset_same h5, zar_up 64 k (fun (v : Nat) => .int (iI v))]⟩
theorem zWy.cgO (R : zWy w op ln fc qu h) {P : Nat → Bool} (e : ∀ i, i < 64 → op i = P i) : zWy w P ln fc qu h := by
  obtain ⟨h1, h2, h3⟩ := R
  exact ⟨h1, by rw [h2]; congr 2; exact zar_congr fun k hk => by rw [e k hk], h3⟩
theorem zWy.cgL (R : zWy w op ln fc qu h) {P : Nat → Option Nat} (e : ∀ i, i < 64 → ln i = P i) : zWy w op P fc qu h := by
  obtain ⟨h1, h2, h3, h4⟩ := R
  exact ⟨h1, h2, by rw [h3]; congr 2; exact zar_congr fun k hk => by rw [e k hk], h4⟩
def f_opF (C : zCo) (t d c : Nat) : Bool := decide (0 < C.1 c ∧ d ≤ C.1 c + t)
def f_opD (C : zCo) (d c : Nat) : Bool := decide (d ≤ C.1 c)
theorem zwb_t {P : Prop} [Decidable P] (h : P) : vp_nar .boolean (iI 1) = iI (zBo (decide P)) := by rw [zBo_if, if_pos h]; rfl
theorem zwb_f {P : Prop} [Decidable P] (h : ¬ P) : vp_nar .boolean (iI 0) = iI (zBo (decide P)) := by rw [zBo_if, if_neg h]; rfl
theorem m_openFor {t d : Nat} (hw : zNR ≤ w) (hb : b + 16 ≤ w ∨ w + 5 ≤ b) (R : zRepC b σ τ C h) (W : zWy w op ln fc qu h) (hO : zOk K C) (ht : t ≤ 2) (hd : d ≤ 9) : zMet yX9_openFor cX9_openFor 6 none 1 0 0 [.ref w, .ref b, .int (iI t), .int (iI d)] h (fun v h' => v = none ∧ zWy w (f_opF C t d) ln fc qu h' ∧ zSame (zIn w 5) h h') (fun _ _ => False) := by
  refine zMet.go (by decide +kernel) (Nat.le_of_ble_eq_true rfl) ?_
  intro X F B hnl hR hn
  have hS : ∀ a, b ≤ a → a < b + 16 → ¬ zIn w 5 a := fun a g1 g2 g3 => by have := g3.1; have := g3.2; omega
  refine zi_iconst F dX9_openFor_0 ?_
  refine z_istore F dX9_openFor_1 rfl (hnl _ rfl) ?_
  suffices KK : ∀ n i : Nat, n + i = 64 → ∀ (op1 : Nat → Bool) (h1 : zH), (∀ j, j < i → op1 j = f_opF C t d j) → zWy w op1 ln fc qu h1 → zSame (zIn w 5) h h1 → Z X 0 0 3 [(4, .int (iI i)), (0, .ref w), (1, .ref b), (2, .int (iI t)), (3, .int (iI d))] [] h1 from Z.keys [4, 0, 1, 2, 3] rfl (KK 64 0 rfl op h (fun j hj => absurd hj (Nat.not_lt_zero j)) W zSame.rf)
  intro n
  induction n with
  | zero =>
    intro i hi op1 h1 ho W1 s1
    refine z_iload F dX9_openFor_3 rfl ?_
    refine zi_bipush F dX9_openFor_5 (by decide) ?_
    refine zi_icmp_ge (tgt := 50) F dX9_openFor_7 (by decide) (by omega) (fun c7 => ?_) (fun c7 => False.elim (by omega))
    exact z_return F B dX9_openFor_50 ⟨rfl, W1.cgO (fun j hj => ho j (by omega)), s1⟩
  | succ n ih =>
    intro i hi op1 h1 ho W1 s1
    have R1 := R.same s1 hS
    have h9 := hO.1 i
    refine z_iload F dX9_openFor_3 rfl ?_
    refine zi_bipush F dX9_openFor_5 (by decide) ?_
    refine zi_icmp_ge (tgt := 50) F dX9_openFor_7 (by decide) (by omega) (fun c7 => False.elim (by omega)) (fun c7 => ?_)
    refine z_aload_n F dX9_openFor_10 rfl rfl ?_
    refine z_getfield F fl_X9_25 dX9_openFor_11 R1.ob (by decide) rfl ?_
    refine z_iload F dX9_openFor_14 rfl ?_
    refine zi_iaload (i := i) F dX9_openFor_16 R1.dp rfl (by omega) (zar_get (by omega)) ?_
    refine z_istore F dX9_openFor_17 rfl (hnl _ rfl) ?_
    refine z_aload_n F dX9_openFor_19 rfl rfl ?_
    refine z_getfield F fl_X9_9 dX9_openFor_20 W1.1 (by decide) rfl ?_
    refine z_iload F dX9_openFor_23 rfl ?_
    refine z_iload F dX9_openFor_25 rfl ?_
    refine zi_if_le (tgt := 42) F dX9_openFor_27 (by decide) (by omega) (fun c27 => ?_) (fun c27 => ?_)
    · refine zi_iconst F dX9_openFor_42 ?_
      refine zi_zastore (i := i) F dX9_openFor_43 (zmut_of F (by omega)) W1.2.1 rfl (by rw [zar_len]; omega) ?_
      refine zi_iinc F dX9_openFor_44 rfl rfl (hnl _ rfl) ?_
      refine z_goto (tgt := 3) F dX9_openFor_47 (by decide) ?_
      exact Z.keys [4, 0, 1, 2, 3] rfl (ih (i + 1) (by omega) _ _ (zup_ext ho) (W1.putO i (f_opF C t d i) (by first | exact zwb_t (by omega) | exact zwb_f (by omega))) (s1.set ⟨by omega, by omega⟩))
    · refine z_iload F dX9_openFor_30 rfl ?_
      refine z_iload_n F dX9_openFor_32 rfl rfl ?_
      refine zi_iadd F dX9_openFor_33 ?_
      refine z_iload_n F dX9_openFor_34 rfl rfl ?_
      refine zi_icmp_lt (tgt := 42) F dX9_openFor_35 (by decide) (by omega) (fun c35 => ?_) (fun c35 => ?_)
      · refine zi_iconst F dX9_openFor_42 ?_
        refine zi_zastore (i := i) F dX9_openFor_43 (zmut_of F (by omega)) W1.2.1 rfl (by rw [zar_len]; omega) ?_
        refine zi_iinc F dX9_openFor_44 rfl rfl (hnl _ rfl) ?_
        refine z_goto (tgt := 3) F dX9_openFor_47 (by decide) ?_
        exact Z.keys [4, 0, 1, 2, 3] rfl (ih (i + 1) (by omega) _ _ (zup_ext ho) (W1.putO i (f_opF C t d i) (by first | exact zwb_t (by omega) | exact zwb_f (by omega))) (s1.set ⟨by omega, by omega⟩))
      · refine zi_iconst F dX9_openFor_38 ?_
        refine z_goto (tgt := 43) F dX9_openFor_39 (by decide) ?_
        refine zi_zastore (i := i) F dX9_openFor_43 (zmut_of F (by omega)) W1.2.1 rfl (by rw [zar_len]; omega) ?_
        refine zi_iinc F dX9_openFor_44 rfl rfl (hnl _ rfl) ?_
        refine z_goto (tgt := 3) F dX9_openFor_47 (by decide) ?_
        exact Z.keys [4, 0, 1, 2, 3] rfl (ih (i + 1) (by omega) _ _ (zup_ext ho) (W1.putO i (f_opF C t d i) (by first | exact zwb_t (by omega) | exact zwb_f (by omega))) (s1.set ⟨by omega, by omega⟩))
theorem m_openDeep {d : Nat} (hw : zNR ≤ w) (hb : b + 16 ≤ w ∨ w + 5 ≤ b) (R : zRepC b σ τ C h) (W : zWy w op ln fc qu h) (hO : zOk K C) (hd : d ≤ 9) : zMet yX9_openDeep cX9_openDeep 4 none 1 0 0 [.ref w, .ref b, .int (iI d)] h (fun v h' => v = none ∧ zWy w (f_opD C d) ln fc qu h' ∧ zSame (zIn w 5) h h') (fun _ _ => False) := by
  refine zMet.go (by decide +kernel) (Nat.le_of_ble_eq_true rfl) ?_
  intro X F B hnl hR hn
  have hS : ∀ a, b ≤ a → a < b + 16 → ¬ zIn w 5 a := fun a g1 g2 g3 => by have := g3.1; have := g3.2; omega
  refine zi_iconst F dX9_openDeep_0 ?_
  refine z_istore_n F dX9_openDeep_1 rfl rfl (hnl _ rfl) ?_
  suffices KK : ∀ n i : Nat, n + i = 64 → ∀ (op1 : Nat → Bool) (h1 : zH), (∀ j, j < i → op1 j = f_opD C d j) → zWy w op1 ln fc qu h1 → zSame (zIn w 5) h h1 → Z X 0 0 2 [(3, .int (iI i)), (0, .ref w), (1, .ref b), (2, .int (iI d))] [] h1 from Z.keys [3, 0, 1, 2] rfl (KK 64 0 rfl op h (fun j hj => absurd hj (Nat.not_lt_zero j)) W zSame.rf)
  intro n
  induction n with
  | zero =>
    intro i hi op1 h1 ho W1 s1
    refine z_iload_n F dX9_openDeep_2 rfl rfl ?_
    refine zi_bipush F dX9_openDeep_3 (by decide) ?_
    refine zi_icmp_ge (tgt := 35) F dX9_openDeep_5 (by decide) (by omega) (fun c5 => ?_) (fun c5 => False.elim (by omega))
    exact z_return F B dX9_openDeep_35 ⟨rfl, W1.cgO (fun j hj => ho j (by omega)), s1⟩
  | succ n ih =>
    intro i hi op1 h1 ho W1 s1
    have R1 := R.same s1 hS
    have h9 := hO.1 i
    refine z_iload_n F dX9_openDeep_2 rfl rfl ?_
    refine zi_bipush F dX9_openDeep_3 (by decide) ?_
    refine zi_icmp_ge (tgt := 35) F dX9_openDeep_5 (by decide) (by omega) (fun c5 => False.elim (by omega)) (fun c5 => ?_)
    refine z_aload_n F dX9_openDeep_8 rfl rfl ?_
    refine z_getfield F fl_X9_9 dX9_openDeep_9 W1.1 (by decide) rfl ?_
    refine z_iload_n F dX9_openDeep_12 rfl rfl ?_
    refine z_aload_n F dX9_openDeep_13 rfl rfl ?_
    refine z_getfield F fl_X9_25 dX9_openDeep_14 R1.ob (by decide) rfl ?_
    refine z_iload_n F dX9_openDeep_17 rfl rfl ?_
    refine zi_iaload (i := i) F dX9_openDeep_18 R1.dp rfl (by omega) (zar_get (by omega)) ?_
    refine z_iload_n F dX9_openDeep_19 rfl rfl ?_
    refine zi_icmp_lt (tgt := 27) F dX9_openDeep_20 (by decide) (by omega) (fun c20 => ?_) (fun c20 => ?_)
    · refine zi_iconst F dX9_openDeep_27 ?_
      refine zi_zastore (i := i) F dX9_openDeep_28 (zmut_of F (by omega)) W1.2.1 rfl (by rw [zar_len]; omega) ?_
      refine zi_iinc F dX9_openDeep_29 rfl rfl (hnl _ rfl) ?_
      refine z_goto (tgt := 2) F dX9_openDeep_32 (by decide) ?_
      exact Z.keys [3, 0, 1, 2] rfl (ih (i + 1) (by omega) _ _ (zup_ext ho) (W1.putO i (f_opD C d i) (by first | exact zwb_t (by omega) | exact zwb_f (by omega))) (s1.set ⟨by omega, by omega⟩))
    · refine zi_iconst F dX9_openDeep_23 ?_
      refine z_goto (tgt := 28) F dX9_openDeep_24 (by decide) ?_
      refine zi_zastore (i := i) F dX9_openDeep_28 (zmut_of F (by omega)) W1.2.1 rfl (by rw [zar_len]; omega) ?_
      refine zi_iinc F dX9_openDeep_29 rfl rfl (hnl _ rfl) ?_
      refine z_goto (tgt := 2) F dX9_openDeep_32 (by decide) ?_
      exact Z.keys [3, 0, 1, 2] rfl (ih (i + 1) (by omega) _ _ (zup_ext ho) (W1.putO i (f_opD C d i) (by first | exact zwb_t (by omega) | exact zwb_f (by omega))) (s1.set ⟨by omega, by omega⟩))
def f_bg (s c : Nat) : Option Nat := if c = s then some 0 else none
theorem m_beginAt {s : Nat} (hw : zNR ≤ w) (hs : s < 64) (W : zWy w op ln fc qu h) : zMet yX9_beginAt cX9_beginAt 3 none 1 0 0 [.ref w, .int (iI s)] h (fun v h' => v = none ∧ zWy w op (f_bg s) fc qu h' ∧ zSame (zIn w 5) h h') (fun _ _ => False) := by
  refine zMet.go (by decide +kernel) (Nat.le_of_ble_eq_true rfl) ?_
  intro X F B hnl hR hn
  refine zi_iconst F dX9_beginAt_0 ?_
  refine z_istore_n F dX9_beginAt_1 rfl rfl (hnl _ rfl) ?_
  suffices KK : ∀ n i : Nat, n + i = 64 → ∀ (ln1 : Nat → Option Nat) (h1 : zH), (∀ j, j < i → ln1 j = f_bg s j) → zWy w op ln1 fc qu h1 → zSame (zIn w 5) h h1 → Z X 0 0 2 [(2, .int (iI i)), (0, .ref w), (1, .int (iI s))] [] h1 from Z.keys [2, 0, 1] rfl (KK 64 0 rfl ln h (fun j hj => absurd hj (Nat.not_lt_zero j)) W zSame.rf)
  intro n
  induction n with
  | zero =>
    intro i hi ln1 h1 ho W1 s1
    refine z_iload_n F dX9_beginAt_2 rfl rfl ?_
    refine zi_bipush F dX9_beginAt_3 (by decide) ?_
    refine zi_icmp_ge (tgt := 30) F dX9_beginAt_5 (by decide) (by omega) (fun c5 => ?_) (fun c5 => False.elim (by omega))
    exact z_return F B dX9_beginAt_30 ⟨rfl, W1.cgL (fun j hj => ho j (by omega)), s1⟩
  | succ n ih =>
    intro i hi ln1 h1 ho W1 s1
    refine z_iload_n F dX9_beginAt_2 rfl rfl ?_
    refine zi_bipush F dX9_beginAt_3 (by decide) ?_
    refine zi_icmp_ge (tgt := 30) F dX9_beginAt_5 (by decide) (by omega) (fun c5 => False.elim (by omega)) (fun c5 => ?_)
    refine z_aload_n F dX9_beginAt_8 rfl rfl ?_
    refine z_getfield F fl_X9_15 dX9_beginAt_9 W1.1 (by decide) rfl ?_
    refine z_iload_n F dX9_beginAt_12 rfl rfl ?_
    refine z_iload_n F dX9_beginAt_13 rfl rfl ?_
    refine z_iload_n F dX9_beginAt_14 rfl rfl ?_
    refine zi_icmp_ne (tgt := 22) F dX9_beginAt_15 (by decide) (by omega) (fun c15 => ?_) (fun c15 => ?_)
    · refine zi_iconst F dX9_beginAt_22 ?_
      refine zi_iastore (i := i) F dX9_beginAt_23 (zmut_of F (by omega)) W1.2.2.1 rfl (by rw [zar_len]; omega) ?_
      refine zi_iinc F dX9_beginAt_24 rfl rfl (hnl _ rfl) ?_
      refine z_goto (tgt := 2) F dX9_beginAt_27 (by decide) ?_
      exact Z.keys [2, 0, 1] rfl (ih (i + 1) (by omega) _ _ (zup_ext ho) (W1.putL i (f_bg s i) (by unfold f_bg; first | (rw [if_pos (by omega)]; rfl) | (rw [if_neg (by omega)]; rfl))) (s1.set ⟨by omega, by omega⟩))
    · refine zi_iconst F dX9_beginAt_18 ?_
      refine z_goto (tgt := 23) F dX9_beginAt_19 (by decide) ?_
      refine zi_iastore (i := i) F dX9_beginAt_23 (zmut_of F (by omega)) W1.2.2.1 rfl (by rw [zar_len]; omega) ?_
      refine zi_iinc F dX9_beginAt_24 rfl rfl (hnl _ rfl) ?_
      refine z_goto (tgt := 2) F dX9_beginAt_27 (by decide) ?_
      exact Z.keys [2, 0, 1] rfl (ih (i + 1) (by omega) _ _ (zup_ext ho) (W1.putL i (f_bg s i) (by unfold f_bg; first | (rw [if_pos (by omega)]; rfl) | (rw [if_neg (by omega)]; rfl))) (s1.set ⟨by omega, by omega⟩))
def f_len (ln : Nat → Option Nat) (c : Int) : Int := if 0 ≤ c ∧ c < 64 then zGo (ln c.toNat) else -1
theorem m_lengthTo {c : Int} (hc : -2147483648 ≤ c ∧ c < 2147483648) (W : zWy w op ln fc qu h) : zMet yX9_lengthTo cX9_lengthTo 2 (some .int) 1 0 0 [.ref w, .int (iI c)] h (fun v h' => v = some (.int (iI (f_len ln c))) ∧ h' = h) (fun _ _ => False) := by
  refine zMet.go (by decide +kernel) (Nat.le_of_ble_eq_true rfl) ?_
  intro X F B hnl hR hn
  refine z_iload_n F dX9_lengthTo_0 rfl rfl ?_
  refine zi_if_lt (tgt := 19) F dX9_lengthTo_1 (by decide) (by omega) (fun c1 => ?_) (fun c1 => ?_)
  · refine zi_iconst F dX9_lengthTo_19 ?_
    exact z_ireturn F rfl B dX9_lengthTo_20 ⟨vInt (by unfold f_len; split <;> first | rfl | (exfalso; omega)), rfl⟩
  · refine z_iload_n F dX9_lengthTo_4 rfl rfl ?_
    refine zi_bipush F dX9_lengthTo_5 (by decide) ?_
    refine zi_icmp_ge (tgt := 19) F dX9_lengthTo_7 (by decide) (by omega) (fun c7 => ?_) (fun c7 => ?_)
    · refine zi_iconst F dX9_lengthTo_19 ?_
      exact z_ireturn F rfl B dX9_lengthTo_20 ⟨vInt (by unfold f_len; split <;> first | rfl | (exfalso; omega)), rfl⟩
    · refine z_aload_n F dX9_lengthTo_10 rfl rfl ?_
      refine z_getfield F fl_X9_15 dX9_lengthTo_11 W.1 (by decide) rfl ?_
      refine z_iload_n F dX9_lengthTo_14 rfl rfl ?_
      refine zi_iaload F dX9_lengthTo_15 W.2.2.1 (Int.toNat_of_nonneg (by omega)).symm (by omega) (zar_get (by omega)) ?_
      refine z_goto (tgt := 20) F dX9_lengthTo_16 (by decide) ?_
      exact z_ireturn F rfl B dX9_lengthTo_20 ⟨vInt (by unfold f_len; split <;> first | rfl | (exfalso; omega)), rfl⟩
theorem zgen {X : zX} {k n pc : Nat} {ls : zL} {st : List Value} {h0 : zH} {P : zH → Prop} (q : P h0) (K : ∀ h', P h' → Z X k n pc ls st h') : Z X k n pc ls st h0 := K h0 q
theorem zGo_m1 {o : Option Nat} (h : zGo o = -1) : o = none := by cases o with
  | none => rfl
  | some c => simp only [zGo] at h; omega
abbrev zBs : Type := (Nat → Option Nat) × (Nat → Nat) × (Nat → Nat) × Nat
/-- one direction from the cell at place nx of the queue -/
def bStep (op : Nat → Bool) (nx d : Nat) (s : zBs) : zBs := match zNb (s.2.2.1 nx) d with
  | none => s
  | some t => if 64 ≤ s.2.2.2 then s else if op t = false then s else if s.1 t = none then (zup s.1 t (some ((zGo (s.1 (s.2.2.1 nx)) + 1).toNat)), zup s.2.1 t (if nx = 0 then t else s.2.1 (s.2.2.1 nx)), zup s.2.2.1 s.2.2.2 t, s.2.2.2 + 1) else s
def bIn (op : Nat → Bool) (nx : Nat) : Nat → Nat → zBs → zBs
  | 0, _, s => s
  | n + 1, d, s => bIn op nx n (d + 1) (bStep op nx d s)
def bOut (op : Nat → Bool) : Nat → Nat → zBs → zBs
  | 0, _, s => s
  | n + 1, nx, s => if nx < s.2.2.2 then bOut op n (nx + 1) (bIn op nx 4 0 s) else s
def bInv (s : zBs) : Prop := s.2.2.2 ≤ 64 ∧ (∀ i, i < s.2.2.2 → s.2.2.1 i < 64) ∧ ∀ c, -1 ≤ zGo (s.1 c) ∧ zGo (s.1 c) < s.2.2.2
theorem zGo_ge (o : Option Nat) : -1 ≤ zGo o := by cases o <;> simp only [zGo] <;> omega
theorem bStep_inv {op : Nat → Bool} {nx d : Nat} {s : zBs} (I : bInv s) (hn : nx < s.2.2.2) : bInv (bStep op nx d s) ∧ s.2.2.2 ≤ (bStep op nx d s).2.2.2 ∧ ∀ i, i < s.2.2.2 → (bStep op nx d s).2.2.1 i = s.2.2.1 i := by
  obtain ⟨i1, i2, i3⟩ := I
  unfold bStep
  cases hz : zNb (s.2.2.1 nx) d with
  | none => exact ⟨⟨i1, i2, i3⟩, Nat.le_refl _, fun _ _ => rfl⟩
  | some t =>
    have ht := zNb_lt (i2 nx hn) hz
    dsimp only
    split
    · exact ⟨⟨i1, i2, i3⟩, Nat.le_refl _, fun _ _ => rfl⟩
    split
    · exact ⟨⟨i1, i2, i3⟩, Nat.le_refl _, fun _ _ => rfl⟩
    split
    · refine ⟨⟨by show s.2.2.2 + 1 ≤ 64; omega, fun i hi => ?_, fun c => ?_⟩, Nat.le_succ _, fun i hi => zup_n (by omega)⟩
      · show zup s.2.2.1 s.2.2.2 t i < 64
        have hi : i < s.2.2.2 + 1 := hi
        by_cases e : i = s.2.2.2
        · rw [e, zup_s]; exact ht
        · rw [zup_n e]; exact i2 i (by omega)
      · show -1 ≤ zGo (zup s.1 t _ c) ∧ zGo (zup s.1 t _ c) < ((s.2.2.2 + 1 : Nat) : Int)
        have := i3 (s.2.2.1 nx)
        by_cases e : c = t
        · rw [e, zup_s]
          show -1 ≤ (((zGo (s.1 (s.2.2.1 nx)) + 1).toNat : Nat) : Int) ∧ (((zGo (s.1 (s.2.2.1 nx)) + 1).toNat : Nat) : Int) < ((s.2.2.2 + 1 : Nat) : Int)
          omega
        · rw [zup_n e]; have := i3 c; omega
    · exact ⟨⟨i1, i2, i3⟩, Nat.le_refl _, fun _ _ => rfl⟩
/-- the end of a search -/
def f_bfs (op : Nat → Bool) (s : Nat) (fc qu : Nat → Nat) : zBs := bOut op 64 0 (f_bg s, fc, zup qu 0 s, 1)
theorem f_bg_b (s c : Nat) : -1 ≤ zGo (f_bg s c) ∧ zGo (f_bg s c) < 1 := by unfold f_bg; split <;> simp only [zGo] <;> omega
theorem m_searchFrom {s : Nat} (hw : zNR ≤ w) (hs : s < 64) (W : zWy w op ln fc qu h) : zMet yX9_searchFrom cX9_searchFrom 7 none 2 0 0 [.ref w, .int (iI s)] h (fun v h' => v = none ∧ zWy w op (f_bfs op s fc qu).1 (f_bfs op s fc qu).2.1 (f_bfs op s fc qu).2.2.1 h' ∧ zSame (zIn w 5) h h') (fun _ _ => False) := by
  refine zMet.go (by decide +kernel) (Nat.le_of_ble_eq_true rfl) ?_
  intro X F B hnl hR hn
  refine z_aload_n F dX9_searchFrom_0 rfl rfl ?_
  refine z_iload_n F dX9_searchFrom_1 rfl rfl ?_
  refine z_callV F B cal_yX9_beginAt (m_beginAt hw hs W) dX9_searchFrom_2 rfl rfl (Nat.le_of_ble_eq_true rfl) (by decide) (by decide) (by decide) ml_X9_30 im_yX9_beginAt se_yX9_beginAt W.1 (by decide) rfl rfl (fun v hX qX => ?_) (fun C h1 q => q.elim)
  obtain ⟨rfl, W1, s1⟩ := qX
  refine z_aload_n F dX9_searchFrom_5 rfl rfl ?_
  refine z_getfield F fl_X9_22 dX9_searchFrom_6 W1.1 (by decide) rfl ?_
  refine zi_iconst F dX9_searchFrom_9 ?_
  refine z_iload_n F dX9_searchFrom_10 rfl rfl ?_
  refine zi_iastore (i := 0) F dX9_searchFrom_11 (zmut_of F (by omega)) W1.2.2.2.2 rfl ⟨by omega, by rw [zar_len]; omega⟩ ?_
  refine zgen (P := fun h' => zWy w op _ _ _ h' ∧ zSame (zIn w 5) h h') ⟨W1.putQ 0 s rfl, s1.set ⟨by omega, by omega⟩⟩ (fun h2 q2 => ?_)
  obtain ⟨W2, s2⟩ := q2
  refine zi_iconst F dX9_searchFrom_12 ?_
  refine z_istore_n F dX9_searchFrom_13 rfl rfl (hnl _ rfl) ?_
  refine zi_iconst F dX9_searchFrom_14 ?_
  refine z_istore_n F dX9_searchFrom_15 rfl rfl (hnl _ rfl) ?_
  suffices KK : ∀ n nx : Nat, n + nx = 64 → ∀ (S : zBs) (h1 : zH), bInv S → f_bfs op s fc qu = bOut op n nx S → zWy w op S.1 S.2.1 S.2.2.1 h1 → zSame (zIn w 5) h h1 → Z X 0 0 16 [(3, .int (iI nx)), (2, .int (iI S.2.2.2)), (0, .ref w), (1, .int (iI s))] [] h1 from Z.keys [3, 2, 0, 1] rfl (KK 64 0 rfl (f_bg s, fc, zup qu 0 s, 1) h2 ⟨(by omega : 1 ≤ 64), fun i hi => by have hi : i < 1 := hi; rw [show i = 0 by omega]; show zup qu 0 s 0 < 64; rw [zup_s]; exact hs, fun c => f_bg_b s c⟩ rfl W2 s2)
  intro n
  induction n with
  | zero =>
    intro nx hnx S h1 I he W1 s1
    have i1 := I.1
    refine z_iload_n F dX9_searchFrom_16 rfl rfl ?_
    refine z_iload_n F dX9_searchFrom_17 rfl rfl ?_
    refine zi_icmp_ge (tgt := 151) F dX9_searchFrom_18 (by decide) (by omega) (fun c18 => ?_) (fun c18 => ?_)
    · exact z_return F B dX9_searchFrom_151 ⟨rfl, by rw [he]; exact W1, s1⟩
    · refine z_iload_n F dX9_searchFrom_21 rfl rfl ?_
      refine zi_bipush F dX9_searchFrom_22 (by decide) ?_
      refine zi_icmp_ge (tgt := 151) F dX9_searchFrom_24 (by decide) (by omega) (fun c24 => ?_) (fun c24 => False.elim (by omega))
      exact z_return F B dX9_searchFrom_151 ⟨rfl, by rw [he]; exact W1, s1⟩
  | succ n ih =>
    intro nx hnx S h1 I he W1 s1
    have i1 := I.1
    unfold bOut at he
    refine z_iload_n F dX9_searchFrom_16 rfl rfl ?_
    refine z_iload_n F dX9_searchFrom_17 rfl rfl ?_
    refine zi_icmp_ge (tgt := 151) F dX9_searchFrom_18 (by decide) (by omega) (fun c18 => ?_) (fun c18 => ?_)
    · exact z_return F B dX9_searchFrom_151 ⟨rfl, by rw [he, if_neg (by omega)]; exact W1, s1⟩
    rw [if_pos (by omega)] at he
    have i2 := I.2.1 nx (by omega)
    refine z_iload_n F dX9_searchFrom_21 rfl rfl ?_
    refine zi_bipush F dX9_searchFrom_22 (by decide) ?_
    refine zi_icmp_ge (tgt := 151) F dX9_searchFrom_24 (by decide) (by omega) (fun c24 => False.elim (by omega)) (fun c24 => ?_)
    refine z_aload_n F dX9_searchFrom_27 rfl rfl ?_
    refine z_getfield F fl_X9_22 dX9_searchFrom_28 W1.1 (by decide) rfl ?_
    refine z_iload_n F dX9_searchFrom_31 rfl rfl ?_
    refine zi_iaload (i := nx) F dX9_searchFrom_32 W1.2.2.2.2 rfl (by omega) (zar_get (by omega)) ?_
    refine z_istore F dX9_searchFrom_33 rfl (hnl _ rfl) ?_
    refine zi_iconst F dX9_searchFrom_35 ?_
    refine z_istore F dX9_searchFrom_36 rfl (hnl _ rfl) ?_
    suffices KI : ∀ m d : Nat, m + d = 4 → ∀ (S1 : zBs) (h2 : zH), bInv S1 → nx < S1.2.2.2 → S1.2.2.1 nx = S.2.2.1 nx → bIn op nx 4 0 S = bIn op nx m d S1 → zWy w op S1.1 S1.2.1 S1.2.2.1 h2 → zSame (zIn w 5) h h2 → Z X 0 0 38 [(5, .int (iI d)), (2, .int (iI S1.2.2.2)), (3, .int (iI nx)), (4, .int (iI (S.2.2.1 nx))), (0, .ref w), (1, .int (iI s))] [] h2 from Z.keys [5, 2, 3, 4, 0, 1] rfl (KI 4 0 rfl S h1 I (by omega) rfl rfl W1 s1)
    intro m
    induction m with
    | zero =>
      intro d hd S1 h2 I1 hn1 hq he1 W2 s2
      refine z_iload F dX9_searchFrom_38 rfl ?_
      refine zi_iconst F dX9_searchFrom_40 ?_
      refine zi_icmp_ge (tgt := 145) F dX9_searchFrom_41 (by decide) (by omega) (fun c41 => ?_) (fun c41 => False.elim (by omega))
      refine zi_iinc F dX9_searchFrom_145 rfl rfl (hnl _ rfl) ?_
      refine z_goto (tgt := 16) F dX9_searchFrom_148 (by decide) ?_
      exact Z.keys [3, 2, 0, 1] rfl (ih (nx + 1) (by omega) S1 h2 I1 (by rw [he, he1]; rfl) W2 s2)
    | succ m im =>
      intro d hd S1 h2 I1 hn1 hq he1 W2 s2
      have j1 := I1.1
      have nxt := im (d + 1) (by omega) (bStep op nx d S1) 
      obtain ⟨J1, J2, J3⟩ := bStep_inv (op := op) (d := d) I1 hn1
      have go : ∀ h3 : zH, zWy w op (bStep op nx d S1).1 (bStep op nx d S1).2.1 (bStep op nx d S1).2.2.1 h3 → zSame (zIn w 5) h h3 → Z X 0 0 139 [(5, .int (iI d)), (2, .int (iI (bStep op nx d S1).2.2.2)), (3, .int (iI nx)), (4, .int (iI (S.2.2.1 nx))), (0, .ref w), (1, .int (iI s))] [] h3 := by
        intro h3 W3 s3
        refine zi_iinc F dX9_searchFrom_139 rfl rfl (hnl _ rfl) ?_
        refine z_goto (tgt := 38) F dX9_searchFrom_142 (by decide) ?_
        exact Z.keys [5, 2, 3, 4, 0, 1] rfl (nxt h3 J1 (by omega) (by rw [J3 nx hn1, hq]) he1 W3 s3)
      clear nxt
      have hb0 : bStep op nx d S1 = match zNb (S.2.2.1 nx) d with
        | none => S1
        | some t => if 64 ≤ S1.2.2.2 then S1 else if op t = false then S1 else if S1.1 t = none then (zup S1.1 t (some ((zGo (S1.1 (S.2.2.1 nx)) + 1).toNat)), zup S1.2.1 t (if nx = 0 then t else S1.2.1 (S.2.2.1 nx)), zup S1.2.2.1 S1.2.2.2 t, S1.2.2.2 + 1) else S1 := by rw [← hq]; rfl
      have zb := zGo_b (fun c h => zNb_lt (c := S.2.2.1 nx) (d := d) i2 h)
      have same : bStep op nx d S1 = S1 → ∀ ls, zpick ls [5, 2, 3, 4, 0, 1] = [(5, .int (iI d)), (2, .int (iI S1.2.2.2)), (3, .int (iI nx)), (4, .int (iI (S.2.2.1 nx))), (0, .ref w), (1, .int (iI s))] → Z X 0 0 139 ls [] h2 := fun e ls el => by
        rw [e] at go
        exact Z.keys [5, 2, 3, 4, 0, 1] el (go h2 W2 s2)
      cases hz : zNb (S.2.2.1 nx) d with
      | none =>
        rw [hz] at hb0
        refine z_iload F dX9_searchFrom_38 rfl ?_
        refine zi_iconst F dX9_searchFrom_40 ?_
        refine zi_icmp_ge (tgt := 145) F dX9_searchFrom_41 (by decide) (by omega) (fun c41 => False.elim (by omega)) (fun c41 => ?_)
        refine z_iload F dX9_searchFrom_44 rfl ?_
        refine z_iload F dX9_searchFrom_46 rfl ?_
        refine z_callSN F B cal_yX10_neighbour (m_neighbour i2 (by omega) _) dX9_searchFrom_48 rfl rfl (Nat.le_of_ble_eq_true rfl) (by decide) (by decide) (by decide) ml_X9_34 st_yX10_neighbour (fun v hX qX => ?_) (fun C h1 q => q.elim)
        obtain ⟨rfl, qX⟩ := qX
        rw [qX]
        clear qX hX
        rw [hz]
        refine z_istore F dX9_searchFrom_51 rfl (hnl _ rfl) ?_
        refine z_iload_n F dX9_searchFrom_53 rfl rfl ?_
        refine zi_bipush F dX9_searchFrom_54 (by decide) ?_
        refine zi_icmp_ge (tgt := 139) F dX9_searchFrom_56 (by decide) (by omega) (fun c56 => ?_) (fun c56 => ?_)
        · exact same hb0 _ rfl
        · refine z_iload F dX9_searchFrom_59 rfl ?_
          refine zi_iconst F dX9_searchFrom_61 ?_
          refine zi_icmp_eq (tgt := 139) F dX9_searchFrom_62 (by decide) (by simp only [zGo]; omega) (fun c62 => ?_) (fun c62 => False.elim (by exact c62 rfl))
          exact same hb0 _ rfl
      | some t =>
        have ht := zNb_lt i2 hz
        have b1 := I1.2.2 t
        rw [hz] at hb0
        dsimp only at hb0
        refine z_iload F dX9_searchFrom_38 rfl ?_
        refine zi_iconst F dX9_searchFrom_40 ?_
        refine zi_icmp_ge (tgt := 145) F dX9_searchFrom_41 (by decide) (by omega) (fun c41 => False.elim (by omega)) (fun c41 => ?_)
        refine z_iload F dX9_searchFrom_44 rfl ?_
        refine z_iload F dX9_searchFrom_46 rfl ?_
        refine z_callSN F B cal_yX10_neighbour (m_neighbour i2 (by omega) _) dX9_searchFrom_48 rfl rfl (Nat.le_of_ble_eq_true rfl) (by decide) (by decide) (by decide) ml_X9_34 st_yX10_neighbour (fun v hX qX => ?_) (fun C h1 q => q.elim)
        obtain ⟨rfl, qX⟩ := qX
        rw [qX]
        clear qX hX
        rw [hz, show zGo (some t) = (t : Int) from rfl]
        refine z_istore F dX9_searchFrom_51 rfl (hnl _ rfl) ?_
        refine z_iload_n F dX9_searchFrom_53 rfl rfl ?_
        refine zi_bipush F dX9_searchFrom_54 (by decide) ?_
        refine zi_icmp_ge (tgt := 139) F dX9_searchFrom_56 (by decide) (by omega) (fun c56 => same (by rw [hb0, if_pos (by omega)]) _ rfl) (fun c56 => ?_)
        rw [if_neg (by omega)] at hb0
        refine z_iload F dX9_searchFrom_59 rfl ?_
        refine zi_iconst F dX9_searchFrom_61 ?_
        refine zi_icmp_eq (tgt := 139) F dX9_searchFrom_62 (by decide) (by omega) (fun c62 => False.elim (by omega)) (fun c62 => ?_)
        refine z_aload_n F dX9_searchFrom_65 rfl rfl ?_
        refine z_getfield F fl_X9_9 dX9_searchFrom_66 W2.1 (by decide) rfl ?_
        refine z_iload F dX9_searchFrom_69 rfl ?_
        refine zi_zaload (i := t) F dX9_searchFrom_71 W2.2.1 rfl (by omega) (zar_get (by omega)) ?_
        refine zi_if_eq (tgt := 139) F dX9_searchFrom_72 (by decide) (zBo_b _) (fun c72 => same (by rw [hb0, if_pos (by simpa only [zBo_z] using c72)]) _ rfl) (fun c72 => ?_)
        rw [zBo_n] at c72
        rw [if_neg (by rw [c72]; decide)] at hb0
        refine z_aload_n F dX9_searchFrom_75 rfl rfl ?_
        refine z_getfield F fl_X9_15 dX9_searchFrom_76 W2.1 (by decide) rfl ?_
        refine z_iload F dX9_searchFrom_79 rfl ?_
        refine zi_iaload (i := t) F dX9_searchFrom_81 W2.2.2.1 rfl (by omega) (zar_get (by omega)) ?_
        refine zi_iconst F dX9_searchFrom_82 ?_
        refine zi_icmp_eq (tgt := 89) F dX9_searchFrom_83 (by decide) (by omega) (fun c83 => ?_) (fun c83 => z_goto (tgt := 139) F dX9_searchFrom_86 (by decide) (same (by rw [hb0, if_neg (fun e => c83 (by rw [e]; rfl))]) _ rfl))
        rw [if_pos (zGo_m1 c83)] at hb0
        have b2 := I1.2.2 (S.2.2.1 nx)
        refine z_aload_n F dX9_searchFrom_89 rfl rfl ?_
        refine z_getfield F fl_X9_15 dX9_searchFrom_90 W2.1 (by decide) rfl ?_
        refine z_iload F dX9_searchFrom_93 rfl ?_
        refine z_aload_n F dX9_searchFrom_95 rfl rfl ?_
        refine z_getfield F fl_X9_15 dX9_searchFrom_96 W2.1 (by decide) rfl ?_
        refine z_iload F dX9_searchFrom_99 rfl ?_
        refine zi_iaload (i := (S.2.2.1 nx)) F dX9_searchFrom_101 W2.2.2.1 rfl (by omega) (zar_get (by omega)) ?_
        refine zi_iconst F dX9_searchFrom_102 ?_
        refine zi_iadd F dX9_searchFrom_103 ?_
        refine zi_iastore (i := t) F dX9_searchFrom_104 (zmut_of F (by omega)) W2.2.2.1 rfl (by rw [zar_len]; omega) ?_
        refine zgen (P := fun h' => zWy w op _ _ _ h' ∧ zSame (zIn w 5) h h') ⟨W2.putL t (some ((zGo (S1.1 (S.2.2.1 nx)) + 1).toNat)) (congrArg iI (by show zGo (S1.1 (S.2.2.1 nx)) + 1 = (((zGo (S1.1 (S.2.2.1 nx)) + 1).toNat : Nat) : Int); omega)), s2.set ⟨by omega, by omega⟩⟩ (fun h3 q3 => ?_)
        obtain ⟨W3, s3⟩ := q3
        refine z_aload_n F dX9_searchFrom_105 rfl rfl ?_
        refine z_getfield F fl_X9_19 dX9_searchFrom_106 W3.1 (by decide) rfl ?_
        refine z_iload F dX9_searchFrom_109 rfl ?_
        refine z_iload_n F dX9_searchFrom_111 rfl rfl ?_
        refine zi_if_ne (tgt := 120) F dX9_searchFrom_112 (by decide) (by omega) (fun c112 => ?_) (fun c112 => ?_)
        · refine z_aload_n F dX9_searchFrom_120 rfl rfl ?_
          refine z_getfield F fl_X9_19 dX9_searchFrom_121 W3.1 (by decide) rfl ?_
          refine z_iload F dX9_searchFrom_124 rfl ?_
          refine zi_iaload (i := (S.2.2.1 nx)) F dX9_searchFrom_126 W3.2.2.2.1 rfl (by omega) (zar_get (by omega)) ?_
          refine zi_iastore (i := t) F dX9_searchFrom_127 (zmut_of F (by omega)) W3.2.2.2.1 rfl (by rw [zar_len]; omega) ?_
          refine zgen (P := fun h' => zWy w op _ _ _ h' ∧ zSame (zIn w 5) h h') ⟨W3.putF t (if nx = 0 then t else S1.2.1 (S.2.2.1 nx)) (by first | rw [if_pos (by omega)] | rw [if_neg (by omega)]), s3.set ⟨by omega, by omega⟩⟩ (fun h4 q4 => ?_)
          obtain ⟨W4, s4⟩ := q4
          refine z_aload_n F dX9_searchFrom_128 rfl rfl ?_
          refine z_getfield F fl_X9_22 dX9_searchFrom_129 W4.1 (by decide) rfl ?_
          refine z_iload_n F dX9_searchFrom_132 rfl rfl ?_
          refine z_iload F dX9_searchFrom_133 rfl ?_
          refine zi_iastore (i := S1.2.2.2) F dX9_searchFrom_135 (zmut_of F (by omega)) W4.2.2.2.2 rfl (by rw [zar_len]; omega) ?_
          refine zgen (P := fun h' => zWy w op _ _ _ h' ∧ zSame (zIn w 5) h h') ⟨W4.putQ S1.2.2.2 t rfl, s4.set ⟨by omega, by omega⟩⟩ (fun h5 q5 => ?_)
          obtain ⟨W5, s5⟩ := q5
          rw [hb0] at go
          refine zi_iinc F dX9_searchFrom_136 rfl rfl (hnl _ rfl) ?_
          exact Z.keys [5, 2, 3, 4, 0, 1] rfl (go h5 W5 s5)
        · refine z_iload F dX9_searchFrom_115 rfl ?_
          refine z_goto (tgt := 127) F dX9_searchFrom_117 (by decide) ?_
          refine zi_iastore (i := t) F dX9_searchFrom_127 (zmut_of F (by omega)) W3.2.2.2.1 rfl (by rw [zar_len]; omega) ?_
          refine zgen (P := fun h' => zWy w op _ _ _ h' ∧ zSame (zIn w 5) h h') ⟨W3.putF t (if nx = 0 then t else S1.2.1 (S.2.2.1 nx)) (by first | rw [if_pos (by omega)] | rw [if_neg (by omega)]), s3.set ⟨by omega, by omega⟩⟩ (fun h4 q4 => ?_)
          obtain ⟨W4, s4⟩ := q4
          refine z_aload_n F dX9_searchFrom_128 rfl rfl ?_
          refine z_getfield F fl_X9_22 dX9_searchFrom_129 W4.1 (by decide) rfl ?_
          refine z_iload_n F dX9_searchFrom_132 rfl rfl ?_
          refine z_iload F dX9_searchFrom_133 rfl ?_
          refine zi_iastore (i := S1.2.2.2) F dX9_searchFrom_135 (zmut_of F (by omega)) W4.2.2.2.2 rfl (by rw [zar_len]; omega) ?_
          refine zgen (P := fun h' => zWy w op _ _ _ h' ∧ zSame (zIn w 5) h h') ⟨W4.putQ S1.2.2.2 t rfl, s4.set ⟨by omega, by omega⟩⟩ (fun h5 q5 => ?_)
          obtain ⟨W5, s5⟩ := q5
          rw [hb0] at go
          refine zi_iinc F dX9_searchFrom_136 rfl rfl (hnl _ rfl) ?_
          exact Z.keys [5, 2, 3, 4, 0, 1] rfl (go h5 W5 s5)
end
