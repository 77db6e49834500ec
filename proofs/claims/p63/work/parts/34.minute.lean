/-! a minute's steps: ships move, are wrecked, are seen -/
def zSk (K : Nat) (s : zSp) : Prop := s.1 < 64 ∧ s.2.1 ≤ 9 ∧ (∀ c, s.2.2.1 = some c → c < 64) ∧ s.2.2.2.2 ≤ K
theorem zOk.ship {K i : Nat} {C : zCo} {s : zSp} (h : zOk K C) (hs : zSk K s) : zOk K (C.1, C.2.1, zup C.2.2.1 i s, C.2.2.2) := by
  obtain ⟨h1, h2, h3, h4⟩ := h
  refine ⟨h1, h2, fun j => ?_, h4⟩
  show zSk K (zup C.2.2.1 i s j)
  by_cases e : j = i
  · rw [e, zup_s]; exact hs
  · rw [zup_n e]; exact h3 j
theorem zup_id {α : Type} (L : Nat → α) (i : Nat) : zup L i (L i) = L := by
  funext j
  by_cases e : j = i
  · rw [e, zup_s]
  · rw [zup_n e]
theorem zup_if {α : Type} {f g L : Nat → α} {i : Nat} (hL : ∀ j, L j = if j < i then f j else g j) : ∀ j, zup L i (f i) j = if j < i + 1 then f j else g j := by
  intro j
  by_cases e : j = i
  · rw [e, zup_s, if_pos (by omega)]
  · rw [zup_n e, hL j]
    by_cases h : j < i
    · rw [if_pos h, if_pos (by omega)]
    · rw [if_neg h, if_neg (by omega)]
def f_mv1 (C : zCo) (t : Nat) (s : zSp) : zSp := match s.2.2.1 with
  | none => s
  | some g => if s.2.2.2.1 then s else (f_nx C t s.2.1 s.1 g, s.2.1, if f_nx C t s.2.1 s.1 g = g then none else some g, false, s.2.2.2.2)
theorem f_mv1_ok {K t : Nat} {C : zCo} {s : zSp} (h : zSk K s) : zSk K (f_mv1 C t s) := by
  obtain ⟨c, d, go, wr, dk⟩ := s
  obtain ⟨h1, h2, h3, h4⟩ := h
  unfold f_mv1
  cases go with
  | none => exact ⟨h1, h2, h3, h4⟩
  | some g =>
    dsimp only
    split
    · exact ⟨h1, h2, h3, h4⟩
    · refine ⟨f_nx_lt h1, h2, fun c hc => ?_, h4⟩
      dsimp only at hc
      split at hc
      · cases hc
      · cases hc; exact h3 g rfl
def zWx (w : Nat) (h : zH) : Prop := ∃ op ln fc qu, zWy w op ln fc qu h
theorem zWx.same {w : Nat} {h h' : zH} {S : Nat → Prop} (R : zWx w h) (s : zSame S h h') (hS : ∀ a, w ≤ a → a < w + 5 → ¬ S a) : zWx w h' := by
  obtain ⟨a, b, c, d, R⟩ := R
  exact ⟨a, b, c, d, R.same s hS⟩
def zTwo (b w : Nat) (a : Nat) : Prop := zIn b 16 a ∨ zIn w 5 a
def f_mv (C : zCo) (n : Nat) : Nat → zSp := fun j => if j < n then f_mv1 C (f_tide C.2.2.2.2.1) (C.2.2.1 j) else C.2.2.1 j
section
variable {w b K : Nat} {σ τ : Nat → Nat} {C : zCo} {h : zH}
theorem m_moveShips (hK : K < 2000000) (hbz : zNR ≤ b) (hw : zNR ≤ w) (hb : b + 16 ≤ w ∨ w + 5 ≤ b) (R : zRepC b σ τ C h) (W : zWx w h) (hO : zOk K C) : zMet yX2_moveShips cX2_moveShips 5 none 4 0 0 [.ref b, .ref w] h (fun v h' => v = none ∧ zRepC b σ τ (C.1, C.2.1, f_mv C C.2.2.2.1.2, C.2.2.2) h' ∧ zWx w h' ∧ zSame (zTwo b w) h h') (fun _ _ => False) := by
  refine zMet.go (by decide +kernel) (Nat.le_of_ble_eq_true rfl) ?_
  intro X F B hnl hR hn
  have hm := hO.2.2.2.2.2.1
  have hn6 := hO.2.2.2.2.1
  have ht2 := f_tide_le C.2.2.2.2.1
  refine z_aload_n F dX2_moveShips_0 rfl rfl ?_
  refine z_getfield F fl_X2_49 dX2_moveShips_1 R.ob (by decide) rfl ?_
  refine z_callSN F B cal_yX10_tideAt (m_tideAt _ (by omega) _) dX2_moveShips_4 rfl rfl (Nat.le_of_ble_eq_true rfl) (by decide) (by decide) (by decide) ml_X2_64 st_yX10_tideAt (fun v hX qX => ?_) (fun C h1 q => q.elim)
  obtain ⟨rfl, qX⟩ := qX
  rw [qX]
  clear qX hX
  refine z_istore_n F dX2_moveShips_7 rfl rfl (hnl _ rfl) ?_
  refine zi_iconst F dX2_moveShips_8 ?_
  refine z_istore_n F dX2_moveShips_9 rfl rfl (hnl _ rfl) ?_
  suffices KK : ∀ n i : Nat, n + i = C.2.2.2.1.2 → ∀ (L : Nat → zSp) (h1 : zH), (∀ j, L j = if j < i then f_mv1 C (f_tide C.2.2.2.2.1) (C.2.2.1 j) else C.2.2.1 j) → zOk K (C.1, C.2.1, L, C.2.2.2) → zRepC b σ τ (C.1, C.2.1, L, C.2.2.2) h1 → zWx w h1 → zSame (zTwo b w) h h1 → Z X 0 0 10 [(3, .int (iI i)), (2, .int (iI (f_tide C.2.2.2.2.1))), (0, .ref b), (1, .ref w)] [] h1 from Z.keys [3, 2, 0, 1] rfl (KK C.2.2.2.1.2 0 rfl C.2.2.1 h (fun j => rfl) hO R W zSame.rf)
  intro n
  induction n with
  | zero =>
    intro i hi L h1 hL hO1 R1 W1 s1
    refine z_iload_n F dX2_moveShips_10 rfl rfl ?_
    refine z_aload_n F dX2_moveShips_11 rfl rfl ?_
    refine z_getfield F fl_X2_46 dX2_moveShips_12 R1.ob (by decide) rfl ?_
    refine zi_icmp_ge (tgt := 97) F dX2_moveShips_15 (by decide) (by first | omega | (dsimp only at *; omega)) (fun c15 => ?_) (fun c15 => False.elim (by first | omega | (dsimp only at *; omega)))
    exact z_return F B dX2_moveShips_97 ⟨rfl, R1.cgS (L := f_mv C C.2.2.2.1.2) (fun j hj => by show L j = _; rw [hL j, show i = C.2.2.2.1.2 by omega]; rfl), W1, s1⟩
  | succ n ih =>
    intro i hi L h1 hL hO1 R1 W1 s1
    have hi6 : i < 6 := by omega
    have hsh : h1[τ i]? = some (10, zSf (L i)) := R1.si hi6
    have pt := R1.pt.1 i hi6
    have hLi : L i = C.2.2.1 i := by rw [hL i, if_neg (by omega)]
    have sk : zSk K (L i) := hO1.2.2.1 i
    have next : ∀ (s' : zSp) (h2 : zH), s' = f_mv1 C (f_tide C.2.2.2.2.1) (L i) → zRepC b σ τ (C.1, C.2.1, zup L i s', C.2.2.2) h2 → zWx w h2 → zSame (zTwo b w) h h2 → Z X 0 0 91 [(3, .int (iI i)), (2, .int (iI (f_tide C.2.2.2.2.1))), (0, .ref b), (1, .ref w)] [] h2 := by
      intro s' h2 es R2 W2 s2
      refine zi_iinc F dX2_moveShips_91 rfl rfl (hnl _ rfl) ?_
      refine z_goto (tgt := 10) F dX2_moveShips_94 (by decide) ?_
      exact Z.keys [3, 2, 0, 1] rfl (ih (i + 1) (by omega) (zup L i s') h2 (by rw [es, hLi]; exact zup_if hL) (by rw [es]; exact hO1.ship (f_mv1_ok (hO1.2.2.1 i))) R2 W2 s2)
    replace next : ∀ (s' : zSp) (h2 : zH), s' = f_mv1 C (f_tide C.2.2.2.2.1) (L i) → zRepC b σ τ (C.1, C.2.1, zup L i s', C.2.2.2) h2 → zWx w h2 → zSame (zTwo b w) h h2 → ∀ ls, zpick ls [3, 2, 0, 1] = [(3, .int (iI i)), (2, .int (iI (f_tide C.2.2.2.2.1))), (0, .ref b), (1, .ref w)] → Z X 0 0 91 ls [] h2 := fun s' h2 a1 a2 a3 a4 ls el => Z.keys [3, 2, 0, 1] el (next s' h2 a1 a2 a3 a4)
    have stay : L i = f_mv1 C (f_tide C.2.2.2.2.1) (L i) → ∀ ls, zpick ls [3, 2, 0, 1] = [(3, .int (iI i)), (2, .int (iI (f_tide C.2.2.2.2.1))), (0, .ref b), (1, .ref w)] → Z X 0 0 91 ls [] h1 := fun e ls el => next (L i) h1 e (by rw [zup_id]; exact R1) W1 s1 ls el
    rcases hs : L i with ⟨c, d, go, wr, dk⟩
    rw [hs] at sk hsh stay next
    obtain ⟨k1, k2, k3, k4⟩ := sk
    dsimp only at k1 k2 k3 k4
    refine z_iload_n F dX2_moveShips_10 rfl rfl ?_
    refine z_aload_n F dX2_moveShips_11 rfl rfl ?_
    refine z_getfield F fl_X2_46 dX2_moveShips_12 R1.ob (by decide) rfl ?_
    refine zi_icmp_ge (tgt := 97) F dX2_moveShips_15 (by decide) (by first | omega | (dsimp only at *; omega)) (fun c15 => False.elim (by first | omega | (dsimp only at *; omega))) (fun c15 => ?_)
    refine z_aload_n F dX2_moveShips_18 rfl rfl ?_
    refine z_getfield F fl_X2_23 dX2_moveShips_19 R1.ob (by decide) rfl ?_
    refine z_iload_n F dX2_moveShips_22 rfl rfl ?_
    refine zi_aaload (i := i) F dX2_moveShips_23 R1.sa (by decide) (by decide) rfl rfl (by omega) (zar_get (by omega)) rfl ?_
    refine z_astore F dX2_moveShips_24 rfl (hnl _ rfl) ?_
    refine z_aload F dX2_moveShips_26 rfl ?_
    refine z_getfield F fl_X2_121 dX2_moveShips_28 hsh (by decide) rfl ?_
    refine zi_if_ne (tgt := 91) F dX2_moveShips_31 (by decide) (zBo_b _) (fun c31 => stay (by rw [zBo_n] at c31; subst c31; cases go <;> rfl) _ rfl) (fun c31 => ?_)
    rw [zBo_z] at c31
    subst c31
    cases go with
    | none =>
      refine z_aload F dX2_moveShips_34 rfl ?_
      refine z_getfield F fl_X2_125 dX2_moveShips_36 hsh (by decide) rfl ?_
      refine zi_iconst F dX2_moveShips_39 ?_
      refine zi_icmp_ne (tgt := 46) F dX2_moveShips_40 (by decide) (by show (-2147483648 ≤ (-1 : Int) ∧ (-1 : Int) < 2147483648) ∧ -2147483648 ≤ (-1 : Int) ∧ (-1 : Int) < 2147483648; omega) (fun c40 => False.elim (by exact c40 rfl)) (fun c40 => ?_)
      refine z_goto (tgt := 91) F dX2_moveShips_43 (by decide) ?_
      exact stay rfl _ rfl
    | some g =>
      have hg := k3 g rfl
      obtain ⟨op, ln, fc, qu, W1⟩ := W1
      have hb40 : (-2147483648 ≤ zGo (some g) ∧ zGo (some g) < 2147483648) ∧ -2147483648 ≤ (-1 : Int) ∧ (-1 : Int) < 2147483648 := by show (-2147483648 ≤ (g : Int) ∧ (g : Int) < 2147483648) ∧ _; omega
      have fl := f_nx_lt (C := C) (t := f_tide C.2.2.2.2.1) (d := d) (g := g) k1
      refine z_aload F dX2_moveShips_34 rfl ?_
      refine z_getfield F fl_X2_125 dX2_moveShips_36 hsh (by decide) rfl ?_
      refine zi_iconst F dX2_moveShips_39 ?_
      refine zi_icmp_ne (tgt := 46) F dX2_moveShips_40 (by decide) hb40 (fun c40 => ?_) (fun c40 => False.elim (by have c40 : (g : Int) = -1 := c40; omega))
      refine z_aload F dX2_moveShips_46 rfl ?_
      refine z_aload_n F dX2_moveShips_48 rfl rfl ?_
      refine z_aload_n F dX2_moveShips_49 rfl rfl ?_
      refine z_iload_n F dX2_moveShips_50 rfl rfl ?_
      refine z_aload F dX2_moveShips_51 rfl ?_
      refine z_getfield F fl_X2_118 dX2_moveShips_53 hsh (by decide) rfl ?_
      refine z_aload F dX2_moveShips_56 rfl ?_
      refine z_getfield F fl_X2_128 dX2_moveShips_58 hsh (by decide) rfl ?_
      refine z_aload F dX2_moveShips_61 rfl ?_
      refine z_getfield F fl_X2_125 dX2_moveShips_63 hsh (by decide) rfl ?_
      refine z_callV F B cal_yX9_nextCell (m_nextCell (g := g) hw hb R1 W1 hO1 ht2 k2 k1 hg) dX2_moveShips_66 rfl rfl (Nat.le_of_ble_eq_true rfl) (by decide) (by decide) (by decide) ml_X2_129 im_yX9_nextCell se_yX9_nextCell W1.1 (by decide) rfl rfl (fun v hX qX => ?_) (fun C h1 q => q.elim)
      obtain ⟨rfl, W2, s2⟩ := qX
      rw [f_nx_eq k1]
      have R2 := R1.same s2 (fun a g1 g2 g3 => by have := g3.1; have := g3.2; omega)
      have hsh2 : hX[τ i]? = some (10, zSf (L i)) := R2.si hi6
      rw [hs] at hsh2
      have W3 : ∀ c, zWx w (hX.set (τ i) c) := fun c => zWx.same (S := fun a => a = τ i) W2 (zSame.rf.set rfl) (fun a g1 g2 g3 => by omega)
      have s3 : ∀ c, zSame (zTwo b w) h (hX.set (τ i) c) := fun c => (s1.tr (s2.weak (fun a q => Or.inr q))).set (Or.inl ⟨by omega, by omega⟩)
      refine z_putfield F fp_X2_128 dX2_moveShips_69 (zmut_of F (by omega)) hsh2 (by decide) (Nat.le_of_ble_eq_true rfl) ⟨rfl, rfl⟩ ?_
      refine z_aload F dX2_moveShips_72 rfl ?_
      refine z_getfield F fl_X2_128 dX2_moveShips_74 (zset_same hsh2) (by decide) rfl ?_
      refine z_aload F dX2_moveShips_77 rfl ?_
      refine z_getfield F fl_X2_125 dX2_moveShips_79 (zset_same hsh2) (by decide) rfl ?_
      have hfx : f_nx (C.1, C.2.1, L, C.2.2.2) (f_tide C.2.2.2.2.1) d c g = f_nx C (f_tide C.2.2.2.2.1) d c g := rfl
      refine zi_icmp_ne (tgt := 91) F dX2_moveShips_82 (by decide) (by show (-2147483648 ≤ _ ∧ _) ∧ -2147483648 ≤ (g : Int) ∧ (g : Int) < 2147483648; rw [hfx]; omega) (fun c82 => ?_) (fun c82 => ?_)
      · first | exact next (f_nx C (f_tide C.2.2.2.2.1) d c g, d, none, false, dk) _ (by unfold f_mv1; dsimp only; rw [if_neg (by decide), if_pos (by have c82 : ((f_nx C (f_tide C.2.2.2.2.1) d c g : Nat) : Int) = (g : Int) := c82; omega)]) (R2.putS hi6 _ rfl) (W3 _) (s3 _) _ rfl | exact next (f_nx C (f_tide C.2.2.2.2.1) d c g, d, some g, false, dk) _ (by unfold f_mv1; dsimp only; rw [if_neg (by decide), if_neg (by have c82 : ¬ ((f_nx C (f_tide C.2.2.2.2.1) d c g : Nat) : Int) = (g : Int) := c82; omega)]) (R2.putS hi6 _ rfl) (W3 _) (s3 _) _ rfl
      · refine z_aload F dX2_moveShips_85 rfl ?_
        refine zi_iconst F dX2_moveShips_87 ?_
        refine zi_putS F fp_X2_125 dX2_moveShips_88 (zmut_of F (by omega)) hsh2 (by decide) (Nat.le_of_ble_eq_true rfl) ⟨rfl, rfl⟩ ?_
        first | exact next (f_nx C (f_tide C.2.2.2.2.1) d c g, d, none, false, dk) _ (by unfold f_mv1; dsimp only; rw [if_neg (by decide), if_pos (by have c82 : ((f_nx C (f_tide C.2.2.2.2.1) d c g : Nat) : Int) = (g : Int) := c82; omega)]) (R2.putS hi6 _ rfl) (W3 _) (s3 _) _ rfl | exact next (f_nx C (f_tide C.2.2.2.2.1) d c g, d, some g, false, dk) _ (by unfold f_mv1; dsimp only; rw [if_neg (by decide), if_neg (by have c82 : ¬ ((f_nx C (f_tide C.2.2.2.2.1) d c g : Nat) : Int) = (g : Int) := c82; omega)]) (R2.putS hi6 _ rfl) (W3 _) (s3 _) _ rfl
def f_wk1 (C : zCo) (s : zSp) : zSp := if s.2.2.2.1 = false ∧ f_wa C s.1 < s.2.1 then (s.1, s.2.1, none, true, s.2.2.2.2) else s
def f_wkn (C : zCo) (i : Nat) : Bool := decide ((C.2.2.1 i).2.2.2.1 = false ∧ f_wa C (C.2.2.1 i).1 < (C.2.2.1 i).2.1)
def f_wkC (C : zCo) (L : Nat → zSp) (k : Nat) : zCo := (C.1, C.2.1, L, C.2.2.2.1, (C.2.2.2.2.1, C.2.2.2.2.2.1, C.2.2.2.2.2.2.1, C.2.2.2.2.2.2.2.1 + k, C.2.2.2.2.2.2.2.2))
def f_wk (C : zCo) : zCo := f_wkC C (fun j => if j < C.2.2.2.1.2 then f_wk1 C (C.2.2.1 j) else C.2.2.1 j) (zcnt (f_wkn C) C.2.2.2.1.2)
theorem f_wk1_ok {K : Nat} {C : zCo} {s : zSp} (h : zSk K s) : zSk K (f_wk1 C s) := by
  unfold f_wk1
  split
  · exact ⟨h.1, h.2.1, (by intro c hc; cases hc), h.2.2.2⟩
  · exact h
theorem f_wkC_ok {K k : Nat} {C : zCo} {L : Nat → zSp} (h : zOk K C) (hL : ∀ j, zSk K (L j)) (hk : k ≤ 6) : zOk (K + 6) (f_wkC C L k) := by
  obtain ⟨h1, h2, h3, h4, h5, h6, h7, h8, h9, h10⟩ := h
  refine ⟨h1, fun i => ?_, fun i => ?_, h4, h5, by show C.2.2.2.2.1 ≤ K + 6; omega, by show C.2.2.2.2.2.1 ≤ K + 6; omega, by show C.2.2.2.2.2.2.1 ≤ K + 6; omega, by show C.2.2.2.2.2.2.2.1 + k ≤ K + 6; omega, by show C.2.2.2.2.2.2.2.2 ≤ K + 6; omega⟩
  · have := h2 i
    exact ⟨this.1, this.2.1, this.2.2.1, this.2.2.2.1, this.2.2.2.2.1, Nat.le_trans this.2.2.2.2.2 (by omega)⟩
  · have := hL i
    exact ⟨this.1, this.2.1, this.2.2.1, Nat.le_trans this.2.2.2 (by omega)⟩
theorem m_wreckShips (hK : K < 1900000) (hbz : zNR ≤ b) (R : zRepC b σ τ C h) (hO : zOk K C) : zMet yX2_wreckShips cX2_wreckShips 3 none 4 0 0 [.ref b] h (fun v h' => v = none ∧ zRepC b σ τ (f_wk C) h' ∧ zSame (zIn b 16) h h') (fun _ _ => False) := by
  refine zMet.go (by decide +kernel) (Nat.le_of_ble_eq_true rfl) ?_
  intro X F B hnl hR hn
  have hn6 := hO.2.2.2.2.1
  refine zi_iconst F dX2_wreckShips_0 ?_
  refine z_istore_n F dX2_wreckShips_1 rfl rfl (hnl _ rfl) ?_
  suffices KK : ∀ n i : Nat, n + i = C.2.2.2.1.2 → ∀ (L : Nat → zSp) (h1 : zH), (∀ j, L j = if j < i then f_wk1 C (C.2.2.1 j) else C.2.2.1 j) → (∀ j, zSk K (L j)) → zRepC b σ τ (f_wkC C L (zcnt (f_wkn C) i)) h1 → zSame (zIn b 16) h h1 → Z X 0 0 2 [(1, .int (iI i)), (0, .ref b)] [] h1 from Z.keys [1, 0] rfl (KK C.2.2.2.1.2 0 rfl C.2.2.1 h (fun j => rfl) hO.2.2.1 R zSame.rf)
  intro n
  induction n with
  | zero =>
    intro i hi L h1 hL hLk R1 s1
    have hin : i = C.2.2.2.1.2 := by omega
    subst hin
    refine z_iload_n F dX2_wreckShips_2 rfl rfl ?_
    refine z_aload_n F dX2_wreckShips_3 rfl rfl ?_
    refine z_getfield F fl_X2_46 dX2_wreckShips_4 R1.ob (by decide) rfl ?_
    refine zi_icmp_ge (tgt := 65) F dX2_wreckShips_7 (by decide) (by show (-2147483648 ≤ _ ∧ _) ∧ (-2147483648 : Int) ≤ (C.2.2.2.1.2 : Int) ∧ (C.2.2.2.1.2 : Int) < 2147483648; omega) (fun c7 => ?_) (fun c7 => False.elim (by exact c7 (Int.le_refl _)))
    exact z_return F B dX2_wreckShips_65 ⟨rfl, by have e := R1.cgS (L := fun j => if j < C.2.2.2.1.2 then f_wk1 C (C.2.2.1 j) else C.2.2.1 j) (fun j hj => hL j); exact e, s1⟩
  | succ n ih =>
    intro i hi L h1 hL hLk R1 s1
    have hi6 : i < 6 := by omega
    have hcn : zcnt (f_wkn C) i ≤ i := zcnt_le _ _
    have hO1 : zOk (K + 6) (f_wkC C L (zcnt (f_wkn C) i)) := f_wkC_ok hO hLk (by omega)
    have hsh : h1[τ i]? = some (10, zSf (L i)) := R1.si hi6
    have pt := R1.pt.1 i hi6
    have hLi : L i = C.2.2.1 i := by rw [hL i, if_neg (by omega)]
    have sk := hLk i
    have next : ∀ (s' : zSp) (h2 : zH), s' = f_wk1 C (L i) → zRepC b σ τ (f_wkC C (zup L i s') (zcnt (f_wkn C) (i + 1))) h2 → zSame (zIn b 16) h h2 → ∀ ls, zpick ls [1, 0] = [(1, .int (iI i)), (0, .ref b)] → Z X 0 0 59 ls [] h2 := by
      intro s' h2 es R2 s2 ls el
      refine Z.keys [1, 0] el ?_
      refine zi_iinc F dX2_wreckShips_59 rfl rfl (hnl _ rfl) ?_
      refine z_goto (tgt := 2) F dX2_wreckShips_62 (by decide) ?_
      exact Z.keys [1, 0] rfl (ih (i + 1) (by omega) (zup L i s') h2 (by rw [es, hLi]; exact zup_if hL) (fun j => by by_cases e : j = i; { rw [e, zup_s, es]; exact f_wk1_ok (hLk i) }; { rw [zup_n e]; exact hLk j }) R2 s2)
    have stay : ¬ ((L i).2.2.2.1 = false ∧ f_wa C (L i).1 < (L i).2.1) → ∀ ls, zpick ls [1, 0] = [(1, .int (iI i)), (0, .ref b)] → Z X 0 0 59 ls [] h1 := fun e ls el => next (L i) h1 (by unfold f_wk1; rw [if_neg e]) (by rw [zup_id, zcnt_f (by unfold f_wkn; rw [← hLi]; exact decide_eq_false e)]; exact R1) s1 ls el
    rcases hs : L i with ⟨c, d, go, wr, dk⟩
    have hwk : f_wkn C i = decide (wr = false ∧ f_wa C c < d) := by unfold f_wkn; rw [← hLi, hs]
    rw [hs] at sk hsh stay next
    obtain ⟨k1, k2, k3, k4⟩ := sk
    dsimp only at k1 k2 k3 k4 stay
    have hfd := f_dep_le hO c
    have hft := f_tide_le C.2.2.2.2.1
    have hwa : f_wa C c ≤ 11 := by unfold f_wa f_ww; split <;> omega
    refine z_iload_n F dX2_wreckShips_2 rfl rfl ?_
    refine z_aload_n F dX2_wreckShips_3 rfl rfl ?_
    refine z_getfield F fl_X2_46 dX2_wreckShips_4 R1.ob (by decide) rfl ?_
    refine zi_icmp_ge (tgt := 65) F dX2_wreckShips_7 (by decide) (by show (-2147483648 ≤ _ ∧ _) ∧ (-2147483648 : Int) ≤ (C.2.2.2.1.2 : Int) ∧ (C.2.2.2.1.2 : Int) < 2147483648; omega) (fun c7 => False.elim (by have c7 : (C.2.2.2.1.2 : Int) ≤ i := c7; omega)) (fun c7 => ?_)
    refine z_aload_n F dX2_wreckShips_10 rfl rfl ?_
    refine z_getfield F fl_X2_23 dX2_wreckShips_11 R1.ob (by decide) rfl ?_
    refine z_iload_n F dX2_wreckShips_14 rfl rfl ?_
    refine zi_aaload (i := i) F dX2_wreckShips_15 R1.sa (by decide) (by decide) rfl rfl (by omega) (zar_get (by omega)) rfl ?_
    refine z_astore_n F dX2_wreckShips_16 rfl rfl (hnl _ rfl) ?_
    refine z_aload_n F dX2_wreckShips_17 rfl rfl ?_
    refine z_getfield F fl_X2_121 dX2_wreckShips_18 hsh (by decide) rfl ?_
    refine zi_if_ne (tgt := 59) F dX2_wreckShips_21 (by decide) (zBo_b _) (fun c21 => stay (fun q => by rw [zBo_n] at c21; rw [q.1] at c21; cases c21) _ rfl) (fun c21 => ?_)
    rw [zBo_z] at c21
    subst c21
    refine z_aload_n F dX2_wreckShips_24 rfl rfl ?_
    refine z_aload_n F dX2_wreckShips_25 rfl rfl ?_
    refine z_getfield F fl_X2_128 dX2_wreckShips_26 hsh (by decide) rfl ?_
    refine z_callV F B cal_yX2_waterOf (m_waterOf (c := (c : Int)) R1 hO1 (by omega) (by omega)) dX2_wreckShips_29 rfl rfl (Nat.le_of_ble_eq_true rfl) (by decide) (by decide) (by decide) ml_X2_135 im_yX2_waterOf se_yX2_waterOf R1.ob (by decide) rfl rfl (fun v hX qX => ?_) (fun C h1 q => q.elim)
    obtain ⟨rfl, qX⟩ := qX
    rw [qX]
    clear qX hX
    refine z_aload_n F dX2_wreckShips_32 rfl rfl ?_
    refine z_getfield F fl_X2_118 dX2_wreckShips_33 hsh (by decide) rfl ?_
    rw [show f_wa (f_wkC C L (zcnt (f_wkn C) i)) (c : Int) = f_wa C c from rfl]
    refine zi_icmp_ge (tgt := 59) F dX2_wreckShips_36 (by decide) (by show (-2147483648 ≤ (f_wa C c : Int) ∧ _) ∧ (-2147483648 : Int) ≤ (d : Int) ∧ (d : Int) < 2147483648; omega) (fun c36 => stay (fun q => by have c36 : (d : Int) ≤ (f_wa C c : Nat) := c36; omega) _ rfl) (fun c36 => ?_)
    replace c36 : ¬ (d : Int) ≤ (f_wa C c : Nat) := c36
    have hyes : f_wkn C i = true := by rw [hwk]; exact decide_eq_true ⟨rfl, by omega⟩
    refine z_aload_n F dX2_wreckShips_39 rfl rfl ?_
    refine zi_iconst F dX2_wreckShips_40 ?_
    refine z_putfield F fp_X2_121 dX2_wreckShips_41 (zmut_of F (by omega)) hsh (by decide) (Nat.le_of_ble_eq_true rfl) ⟨rfl, rfl⟩ ?_
    refine z_aload_n F dX2_wreckShips_44 rfl rfl ?_
    refine zi_iconst F dX2_wreckShips_45 ?_
    refine zi_putS F fp_X2_125 dX2_wreckShips_46 (zmut_of F (by omega)) hsh (by decide) (Nat.le_of_ble_eq_true rfl) ⟨rfl, rfl⟩ ?_
    have R2 := R1.putS hi6 (c, d, none, true, dk) (fs := ((zSf (c, d, go, false, dk)).set 3 (.int (iI 1))).set 2 (.int (iI (-1)))) rfl
    have s2 : ∀ x, zSame (zIn b 16) h (h1.set (τ i) x) := fun x => s1.set ⟨by omega, by omega⟩
    refine z_aload_n F dX2_wreckShips_49 rfl rfl ?_
    refine z_dup F dX2_wreckShips_50 rfl ?_
    refine z_getfield F fl_X2_58 dX2_wreckShips_51 R2.ob (by decide) rfl ?_
    refine zi_iconst F dX2_wreckShips_54 ?_
    refine zi_iadd F dX2_wreckShips_55 ?_
    refine z_putfield F fp_X2_58 dX2_wreckShips_56 (zmut_of F (by omega)) R2.ob (by decide) (Nat.le_of_ble_eq_true rfl) ⟨rfl, rfl⟩ ?_
    exact next (c, d, none, true, dk) _ (by unfold f_wk1; rw [if_pos ⟨rfl, by show f_wa C c < d; omega⟩]) (by rw [zcnt_t hyes]; exact R2.putO (f_wkC C (zup L i (c, d, none, true, dk)) (zcnt (f_wkn C) i + 1)) rfl rfl rfl rfl) ((s2 _).set ⟨by omega, by omega⟩) _ rfl
end
