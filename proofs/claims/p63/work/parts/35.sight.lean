/-! a minute's last step: ships are seen -/
def zsum (f : Nat → Nat) : Nat → Nat
  | 0 => 0
  | n + 1 => zsum f n + f n
theorem zsum_le {f : Nat → Nat} {M : Nat} (h : ∀ i, f i ≤ M) : ∀ n, zsum f n ≤ M * n
  | 0 => Nat.zero_le _
  | n + 1 => by
    have h1 := zsum_le h n
    have h2 := h n
    show zsum f n + f n ≤ M * (n + 1)
    rw [Nat.mul_add]
    omega
theorem f_dep_cg {C C' : zCo} (e : C'.1 = C.1) (c : Int) : f_dep C' c = f_dep C c := by unfold f_dep; rw [e]
theorem f_btw_cg {C C' : zCo} (e : C'.1 = C.1) (p : Nat) (dx dy : Int) (S : Nat) : ∀ n s, f_btw C' p dx dy S n s = f_btw C p dx dy S n s
  | 0, _ => rfl
  | n + 1, s => by unfold f_btw; rw [f_dep_cg e, f_btw_cg e p dx dy S n (s + 1)]
theorem f_rch_cg {C C' : zCo} {l l' : zLt} (e : C'.1 = C.1) (e1 : l'.1 = l.1) (e2 : l'.2.1 = l.2.1) (c : Nat) : f_rch C' l' c = f_rch C l c := by unfold f_rch; rw [e1, e2, f_btw_cg e]
theorem f_swp_cg {C C' : zCo} {l l' : zLt} (e : C'.1 = C.1) (em : C'.2.2.2.2.1 = C.2.2.2.2.1) (e1 : l'.1 = l.1) (e2 : l'.2.1 = l.2.1) (e3 : l'.2.2.1 = l.2.2.1) (e4 : l'.2.2.2.1 = l.2.2.2.1) (c : Nat) : f_swp C' l' c = f_swp C l c := by unfold f_swp zBeam zTurn; rw [e1, e3, e4, em, f_rch_cg e e1 e2]
theorem kstep {k k' k2 : Nat → Nat} {q : Nat → Bool} {l : Nat} (hk' : ∀ l', k' l' = if l' < l then (k l' + if q l' then 1 else 0) else k l') (e2 : k2 l = k l + if q l then 1 else 0) (e3 : ∀ l', l' ≠ l → k2 l' = k' l') : ∀ l', k2 l' = if l' < l + 1 then (k l' + if q l' then 1 else 0) else k l' := by
  intro l'
  by_cases e : l' = l
  · rw [e, e2, if_pos (Nat.lt_succ_self l)]
  · rw [e3 l' e, hk' l']
    by_cases h9 : l' < l
    · rw [if_pos h9, if_pos (show l' < l + 1 by omega)]
    · rw [if_neg h9, if_neg (show ¬ l' < l + 1 by omega)]
def ladd (x : zLt) (k : Nat) : zLt := (x.1, x.2.1, x.2.2.1, x.2.2.2.1, x.2.2.2.2 + k)
/-- ship i makes this many sightings -/
def f_sgn (C : zCo) (i : Nat) : Nat := if (C.2.2.1 i).2.2.2.1 then 0 else f_lsw C (C.2.2.1 i).1
def f_sg1 (C : zCo) (s : zSp) : zSp := if s.2.2.2.1 then s else (s.1, s.2.1, s.2.2.1, s.2.2.2.1, if f_lsw C s.1 = 0 then s.2.2.2.2 + 1 else 0)
/-- light l sees ship i -/
def f_lsp (C : zCo) (l i : Nat) : Bool := !(C.2.2.1 i).2.2.2.1 && f_swp C (C.2.1 l) (C.2.2.1 i).1
def f_sgC (C : zCo) (k : Nat → Nat) (L : Nat → zSp) (m : Nat) : zCo := (C.1, fun l => ladd (C.2.1 l) (k l), L, C.2.2.2.1, (C.2.2.2.2.1, C.2.2.2.2.2.1 + m, C.2.2.2.2.2.2))
def f_sg (C : zCo) : zCo := f_sgC C (fun l => if l < C.2.2.2.1.1 then zcnt (f_lsp C l) C.2.2.2.1.2 else 0) (fun i => if i < C.2.2.2.1.2 then f_sg1 C (C.2.2.1 i) else C.2.2.1 i) (zsum (f_sgn C) C.2.2.2.1.2)
theorem f_sgC_ok {K m : Nat} {C : zCo} {k : Nat → Nat} {L : Nat → zSp} (h : zOk K C) (hk : ∀ l, k l ≤ 6) (hL : ∀ j, zSk (K + 1) (L j)) (hm : m ≤ 36) : zOk (K + 36) (f_sgC C k L m) := by
  obtain ⟨h1, h2, h3, h4, h5, h6, h7, h8, h9, h10⟩ := h
  refine ⟨h1, fun i => ?_, fun i => ?_, h4, h5, by show C.2.2.2.2.1 ≤ K + 36; omega, by show C.2.2.2.2.2.1 + m ≤ K + 36; omega, by show C.2.2.2.2.2.2.1 ≤ K + 36; omega, by show C.2.2.2.2.2.2.2.1 ≤ K + 36; omega, by show C.2.2.2.2.2.2.2.2 ≤ K + 36; omega⟩
  · have := h2 i
    have hki := hk i
    exact ⟨this.1, this.2.1, this.2.2.1, this.2.2.2.1, this.2.2.2.2.1, by show (C.2.1 i).2.2.2.2 + k i ≤ K + 36; omega⟩
  · have := hL i
    exact ⟨this.1, this.2.1, this.2.2.1, Nat.le_trans this.2.2.2 (by omega)⟩
theorem f_sg1_ok {K : Nat} {C : zCo} {s : zSp} (h : zSk K s) : zSk (K + 1) (f_sg1 C s) := by
  have h4 := h.2.2.2
  unfold f_sg1
  split
  · exact ⟨h.1, h.2.1, h.2.2.1, by omega⟩
  · refine ⟨h.1, h.2.1, h.2.2.1, ?_⟩
    show (if f_lsw C s.1 = 0 then s.2.2.2.2 + 1 else 0) ≤ K + 1
    split <;> omega
section
variable {b K : Nat} {σ τ : Nat → Nat} {C : zCo} {h : zH}
theorem m_sightShips (hK : K < 1900000) (hbz : zNR ≤ b) (R : zRepC b σ τ C h) (hO : zOk K C) : zMet yX2_sightShips cX2_sightShips 5 none 4 0 0 [.ref b] h (fun v h' => v = none ∧ zRepC b σ τ (f_sg C) h' ∧ zSame (zIn b 16) h h') (fun _ _ => False) := by
  refine zMet.go (by decide +kernel) (Nat.le_of_ble_eq_true rfl) ?_
  intro X F B hnl hR hn
  have hn6 := hO.2.2.2.2.1
  have hl6 := hO.2.2.2.1
  have hsg := hO.2.2.2.2.2.2.1
  refine zi_iconst F dX2_sightShips_0 ?_
  refine z_istore_n F dX2_sightShips_1 rfl rfl (hnl _ rfl) ?_
  suffices KK : ∀ n i : Nat, n + i = C.2.2.2.1.2 → ∀ (k : Nat → Nat) (L : Nat → zSp) (h1 : zH), (∀ l, k l = if l < C.2.2.2.1.1 then zcnt (f_lsp C l) i else 0) → (∀ j, L j = if j < i then f_sg1 C (C.2.2.1 j) else C.2.2.1 j) → zRepC b σ τ (f_sgC C k L (zsum (f_sgn C) i)) h1 → zSame (zIn b 16) h h1 → Z X 0 0 2 [(1, .int (iI i)), (0, .ref b)] [] h1 from Z.keys [1, 0] rfl (KK C.2.2.2.1.2 0 rfl (fun _ => 0) C.2.2.1 h (fun l => by split <;> rfl) (fun j => rfl) R zSame.rf)
  have sgle : ∀ i, f_sgn C i ≤ 6 := fun i => by
    unfold f_sgn f_lsw
    split
    · omega
    · exact Nat.le_trans (zcnt_le _ _) hl6
  have Lok : ∀ (L : Nat → zSp) (i : Nat), (∀ j, L j = if j < i then f_sg1 C (C.2.2.1 j) else C.2.2.1 j) → ∀ j, zSk (K + 1) (L j) := fun L i hL j => by
    rw [hL j]
    have := hO.2.2.1 j
    split
    · exact f_sg1_ok this
    · exact ⟨this.1, this.2.1, this.2.2.1, Nat.le_succ_of_le this.2.2.2⟩
  intro n
  induction n with
  | zero =>
    intro i hi k L h1 hk hL R1 s1
    have hin : i = C.2.2.2.1.2 := by omega
    subst hin
    refine z_iload_n F dX2_sightShips_2 rfl rfl ?_
    refine z_aload_n F dX2_sightShips_3 rfl rfl ?_
    refine z_getfield (v := .int (iI (C.2.2.2.1.2 : Nat))) F fl_X2_46 dX2_sightShips_4 R1.ob (by decide) rfl ?_
    refine zi_icmp_ge (tgt := 122) F dX2_sightShips_7 (by decide) (by first | omega | (dsimp only at *; omega)) (fun c7 => ?_) (fun c7 => False.elim (by first | omega | (dsimp only at *; omega)))
    exact z_return F B dX2_sightShips_122 ⟨rfl, by have e := (R1.cgS (L := fun j => if j < C.2.2.2.1.2 then f_sg1 C (C.2.2.1 j) else C.2.2.1 j) (fun j hj => hL j)).cgL (L := fun l => ladd (C.2.1 l) (if l < C.2.2.2.1.1 then zcnt (f_lsp C l) C.2.2.2.1.2 else 0)) (fun l hl => by show ladd (C.2.1 l) (k l) = _; rw [hk l]); exact e, s1⟩
  | succ n ih =>
    intro i hi k L h1 hk hL R1 s1
    have hi6 : i < 6 := by omega
    have pt := R1.pt.1 i hi6
    have hzs := zsum_le sgle i
    have hLi : L i = C.2.2.1 i := by rw [hL i, if_neg (by omega)]
    have hk6 : ∀ l, k l ≤ i := fun l => by rw [hk l]; split; exact zcnt_le _ _; omega
    have next : ∀ (s' : zSp) (k' : Nat → Nat) (h2 : zH), s' = f_sg1 C (L i) → (∀ l, k' l = if l < C.2.2.2.1.1 then zcnt (f_lsp C l) (i + 1) else 0) → zRepC b σ τ (f_sgC C k' (zup L i s') (zsum (f_sgn C) (i + 1))) h2 → zSame (zIn b 16) h h2 → ∀ ls, zpick ls [1, 0] = [(1, .int (iI i)), (0, .ref b)] → Z X 0 0 116 ls [] h2 := by
      intro s' k' h2 es ek R2 s2 ls el
      refine Z.keys [1, 0] el ?_
      refine zi_iinc F dX2_sightShips_116 rfl rfl (hnl _ rfl) ?_
      refine z_goto (tgt := 2) F dX2_sightShips_119 (by decide) ?_
      exact Z.keys [1, 0] rfl (ih (i + 1) (by omega) k' (zup L i s') h2 ek (by rw [es, hLi]; exact zup_if hL) R2 s2)
    have hsh : h1[τ i]? = some (10, zSf (L i)) := R1.si hi6
    have sk : zSk K (L i) := by rw [hLi]; exact hO.2.2.1 i
    rcases hs : L i with ⟨c, d, go, wr, dk⟩
    have hsgn : f_sgn C i = if wr then 0 else f_lsw C c := by unfold f_sgn; rw [← hLi, hs]
    have hlsp : ∀ l, f_lsp C l i = (!wr && f_swp C (C.2.1 l) c) := fun l => by unfold f_lsp; rw [← hLi, hs]
    rw [hs] at sk hsh next
    obtain ⟨k1, k2, k3, k4⟩ := sk
    dsimp only at k1 k2 k3 k4
    refine z_iload_n F dX2_sightShips_2 rfl rfl ?_
    refine z_aload_n F dX2_sightShips_3 rfl rfl ?_
    refine z_getfield (v := .int (iI (C.2.2.2.1.2 : Nat))) F fl_X2_46 dX2_sightShips_4 R1.ob (by decide) rfl ?_
    refine zi_icmp_ge (tgt := 122) F dX2_sightShips_7 (by decide) (by first | omega | (dsimp only at *; omega)) (fun c7 => False.elim (by first | omega | (dsimp only at *; omega))) (fun c7 => ?_)
    refine z_aload_n F dX2_sightShips_10 rfl rfl ?_
    refine z_getfield F fl_X2_23 dX2_sightShips_11 R1.ob (by decide) rfl ?_
    refine z_iload_n F dX2_sightShips_14 rfl rfl ?_
    refine zi_aaload (i := i) F dX2_sightShips_15 R1.sa (by decide) (by decide) rfl rfl (by omega) (zar_get (by omega)) rfl ?_
    refine z_astore_n F dX2_sightShips_16 rfl rfl (hnl _ rfl) ?_
    refine z_aload_n F dX2_sightShips_17 rfl rfl ?_
    refine z_getfield F fl_X2_121 dX2_sightShips_18 hsh (by decide) rfl ?_
    refine zi_if_eq (tgt := 27) F dX2_sightShips_21 (by decide) (zBo_b _) (fun c21 => ?_) (fun c21 => ?_); rotate_left
    · rw [zBo_n] at c21
      dsimp only at c21
      subst c21
      refine z_goto (tgt := 116) F dX2_sightShips_24 (by decide) ?_
      exact next (c, d, go, true, dk) k h1 (by unfold f_sg1; rw [if_pos rfl]) (fun l => by rw [hk l]; split; { exact (zcnt_f (by rw [hlsp]; rfl)).symm }; { rfl }) (by rw [show zup L i (c, d, go, true, dk) = L from by rw [← hs]; exact zup_id L i, show zsum (f_sgn C) (i + 1) = zsum (f_sgn C) i from by show _ + f_sgn C i = _; rw [hsgn]; rfl]; exact R1) s1 _ rfl
    rw [zBo_z] at c21
    dsimp only at c21
    subst c21
    have hsgn2 : f_sgn C i = f_lsw C c := hsgn
    have hlsp2 : ∀ l, f_lsp C l i = f_swp C (C.2.1 l) c := fun l => by rw [hlsp l]; rfl
    refine z_aload_n F dX2_sightShips_27 rfl rfl ?_
    refine z_getfield (v := .int (iI ((C.2.2.2.2.2.1 + zsum (f_sgn C) i : Nat) : Int))) F fl_X2_52 dX2_sightShips_28 R1.ob (by decide) rfl ?_
    refine z_istore_n F dX2_sightShips_31 rfl rfl (hnl _ rfl) ?_
    refine zi_iconst F dX2_sightShips_32 ?_
    refine z_istore F dX2_sightShips_33 rfl (hnl _ rfl) ?_
    suffices KI : ∀ m l : Nat, m + l = C.2.2.2.1.1 → ∀ (k' : Nat → Nat) (h2 : zH), (∀ l', k' l' = if l' < l then (k l' + if f_swp C (C.2.1 l') c then 1 else 0) else k l') → zRepC b σ τ (f_sgC C k' L (zsum (f_sgn C) i + zcnt (fun l => f_swp C (C.2.1 l) c) l)) h2 → zSame (zIn b 16) h h2 → Z X 0 0 35 [(4, .int (iI l)), (3, .int (iI ((C.2.2.2.2.2.1 + zsum (f_sgn C) i : Nat) : Int))), (2, .ref (τ i)), (1, .int (iI i)), (0, .ref b)] [] h2 from Z.keys [4, 3, 2, 1, 0] rfl (KI C.2.2.2.1.1 0 rfl k h1 (fun l => rfl) R1 s1)
    intro m
    induction m with
    | zero =>
      intro l hl k' h2 hk' R2 s2
      have hln : l = C.2.2.2.1.1 := by omega
      subst hln
      have hsh2 : h2[τ i]? = some (10, zSf (L i)) := R2.si hi6
      rw [hs] at hsh2
      have hz2 : zcnt (fun l => f_swp C (C.2.1 l) c) C.2.2.2.1.1 = f_lsw C c := rfl
      have hz3 := zcnt_le (fun l => f_swp C (C.2.1 l) c) C.2.2.2.1.1
      rw [hz2] at R2 hz3
      have fin : ∀ (dk' : Nat), dk' = (if f_lsw C c = 0 then dk + 1 else 0) → Z X 0 0 113 [(1, .int (iI i)), (0, .ref b)] [.int (iI dk'), .ref (τ i)] h2 := by
        intro dk' edk
        refine z_putfield F fp_X2_115 dX2_sightShips_113 (zmut_of F (by omega)) hsh2 (by decide) (Nat.le_of_ble_eq_true rfl) ⟨rfl, rfl⟩ ?_
        exact next (c, d, go, false, dk') k' _ (by rw [edk]; rfl) (fun l' => by rw [hk' l']; by_cases hl' : l' < C.2.2.2.1.1; { rw [if_pos hl', if_pos hl', hk l', if_pos hl']; show _ = zcnt (f_lsp C l') i + _; rw [hlsp2] }; { rw [if_neg hl', if_neg hl', hk l', if_neg hl'] }) (by have e := R2.putS hi6 (c, d, go, false, dk') (fs := (zSf (c, d, go, false, dk)).set 4 (.int (iI dk'))) rfl; rw [show zsum (f_sgn C) (i + 1) = zsum (f_sgn C) i + f_lsw C c from by show _ + f_sgn C i = _; rw [hsgn2]]; exact e) (s2.set ⟨by omega, by omega⟩) _ rfl
      refine z_iload F dX2_sightShips_35 rfl ?_
      refine z_aload_n F dX2_sightShips_37 rfl rfl ?_
      refine z_getfield (v := .int (iI (C.2.2.2.1.1 : Nat))) F fl_X2_42 dX2_sightShips_38 R2.ob (by decide) rfl ?_
      refine zi_icmp_ge (tgt := 94) F dX2_sightShips_41 (by decide) (by first | omega | (dsimp only at *; omega)) (fun c41 => ?_) (fun c41 => False.elim (by first | omega | (dsimp only at *; omega)))
      refine z_aload_n F dX2_sightShips_94 rfl rfl ?_
      refine z_aload_n F dX2_sightShips_95 rfl rfl ?_
      refine z_getfield (v := .int (iI ((C.2.2.2.2.2.1 + (zsum (f_sgn C) i + f_lsw C c) : Nat) : Int))) F fl_X2_52 dX2_sightShips_96 R2.ob (by decide) rfl ?_
      refine z_iload_n F dX2_sightShips_99 rfl rfl ?_
      refine zi_icmp_ne (tgt := 112) F dX2_sightShips_100 (by decide) (by first | omega | (dsimp only at *; omega)) (fun c100 => ?_) (fun c100 => ?_)
      · refine zi_iconst F dX2_sightShips_112 ?_
        first | exact Z.keys [1, 0] rfl (fin (dk + 1) (by rw [if_pos (by omega)])) | exact Z.keys [1, 0] rfl (fin 0 (by rw [if_neg (by omega)]))
      · refine z_aload_n F dX2_sightShips_103 rfl rfl ?_
        refine z_getfield F fl_X2_115 dX2_sightShips_104 hsh2 (by decide) rfl ?_
        refine zi_iconst F dX2_sightShips_107 ?_
        refine zi_iadd F dX2_sightShips_108 ?_
        refine z_goto (tgt := 113) F dX2_sightShips_109 (by decide) ?_
        first | exact Z.keys [1, 0] rfl (fin (dk + 1) (by rw [if_pos (by omega)])) | exact Z.keys [1, 0] rfl (fin 0 (by rw [if_neg (by omega)]))
    | succ m im =>
      intro l hl k' h2 hk' R2 s2
      have hl6 : l < 6 := by omega
      have ps := R2.ps.1 l hl6
      have hcl := zcnt_le (fun l => f_swp C (C.2.1 l) c) l
      have hk'l : k' l = k l := by rw [hk' l, if_neg (by omega)]
      have hk'6 : ∀ l', k' l' ≤ 6 := fun l' => by
        have := hk6 l'
        rw [hk' l']
        (repeat' split) <;> omega
      have hO2 : zOk (K + 36) (f_sgC C k' L (zsum (f_sgn C) i + zcnt (fun l => f_swp C (C.2.1 l) c) l)) := f_sgC_ok hO hk'6 (Lok L i hL) (by omega)
      have hsh2 : h2[τ i]? = some (10, zSf (L i)) := R2.si hi6
      rw [hs] at hsh2
      have hli : h2[σ l]? = some (9, zLf (ladd (C.2.1 l) (k' l))) := R2.li hl6
      have go2 : ∀ (k2 : Nat → Nat) (h3 : zH), (∀ l', k2 l' = if l' < l + 1 then (k l' + if f_swp C (C.2.1 l') c then 1 else 0) else k l') → zRepC b σ τ (f_sgC C k2 L (zsum (f_sgn C) i + zcnt (fun l => f_swp C (C.2.1 l) c) (l + 1))) h3 → zSame (zIn b 16) h h3 → ∀ ls, zpick ls [4, 3, 2, 1, 0] = [(4, .int (iI l)), (3, .int (iI ((C.2.2.2.2.2.1 + zsum (f_sgn C) i : Nat) : Int))), (2, .ref (τ i)), (1, .int (iI i)), (0, .ref b)] → Z X 0 0 88 ls [] h3 := by
        intro k2 h3 e2 R3 s3 ls el
        refine Z.keys [4, 3, 2, 1, 0] el ?_
        refine zi_iinc F dX2_sightShips_88 rfl rfl (hnl _ rfl) ?_
        refine z_goto (tgt := 35) F dX2_sightShips_91 (by decide) ?_
        exact Z.keys [4, 3, 2, 1, 0] rfl (im (l + 1) (by omega) k2 h3 e2 R3 s3)
      refine z_iload F dX2_sightShips_35 rfl ?_
      refine z_aload_n F dX2_sightShips_37 rfl rfl ?_
      refine z_getfield (v := .int (iI (C.2.2.2.1.1 : Nat))) F fl_X2_42 dX2_sightShips_38 R2.ob (by decide) rfl ?_
      refine zi_icmp_ge (tgt := 94) F dX2_sightShips_41 (by decide) (by first | omega | (dsimp only at *; omega)) (fun c41 => False.elim (by first | omega | (dsimp only at *; omega))) (fun c41 => ?_)
      refine z_aload_n F dX2_sightShips_44 rfl rfl ?_
      refine z_aload_n F dX2_sightShips_45 rfl rfl ?_
      refine z_getfield F fl_X2_17 dX2_sightShips_46 R2.ob (by decide) rfl ?_
      refine z_iload F dX2_sightShips_49 rfl ?_
      refine zi_aaload (i := l) F dX2_sightShips_51 R2.la (by decide) (by decide) rfl rfl (by omega) (zar_get (by omega)) rfl ?_
      refine z_aload_n F dX2_sightShips_52 rfl rfl ?_
      refine z_getfield F fl_X2_128 dX2_sightShips_53 hsh2 (by decide) rfl ?_
      refine z_callV F B cal_yX2_isSwept (m_isSwept (c := c) R2 hO2 (by omega) hli (hO2.2.1 l) k1) dX2_sightShips_56 rfl rfl (Nat.le_of_ble_eq_true rfl) (by decide) (by decide) (by decide) ml_X2_108 im_yX2_isSwept se_yX2_isSwept R2.ob (by decide) rfl rfl (fun v hX qX => ?_) (fun C h1 q => q.elim)
      obtain ⟨rfl, qX⟩ := qX
      rw [qX]
      clear qX hX
      rw [show f_swp (f_sgC C k' L (zsum (f_sgn C) i + zcnt (fun l => f_swp C (C.2.1 l) c) l)) (ladd (C.2.1 l) (k' l)) c = f_swp C (C.2.1 l) c from f_swp_cg (C := C) (C' := f_sgC C k' L (zsum (f_sgn C) i + zcnt (fun l => f_swp C (C.2.1 l) c) l)) (l := C.2.1 l) (l' := ladd (C.2.1 l) (k' l)) rfl rfl rfl rfl rfl rfl c]
      refine zi_if_eq (tgt := 88) F dX2_sightShips_59 (by decide) (zBo_b _) (fun c59 => ?_) (fun c59 => ?_)
      · rw [zBo_z] at c59
        exact go2 k' h2 (kstep (q := fun l' => f_swp C (C.2.1 l') c) hk' (by rw [hk'l]; simp only [c59]; rfl) (fun _ _ => rfl)) (by rw [zcnt_f (p := fun l => f_swp C (C.2.1 l) c) c59]; exact R2) s2 _ rfl
      rw [zBo_n] at c59
      refine z_aload_n F dX2_sightShips_62 rfl rfl ?_
      refine z_getfield F fl_X2_17 dX2_sightShips_63 R2.ob (by decide) rfl ?_
      refine z_iload F dX2_sightShips_66 rfl ?_
      refine zi_aaload (i := l) F dX2_sightShips_68 R2.la (by decide) (by decide) rfl rfl (by omega) (zar_get (by omega)) rfl ?_
      refine z_dup F dX2_sightShips_69 rfl ?_
      refine z_getfield F fl_X2_138 dX2_sightShips_70 hli (by decide) rfl ?_
      refine zi_iconst F dX2_sightShips_73 ?_
      refine zi_iadd F dX2_sightShips_74 ?_
      refine z_putfield F fp_X2_138 dX2_sightShips_75 (zmut_of F (by omega)) hli (by decide) (Nat.le_of_ble_eq_true rfl) ⟨rfl, rfl⟩ ?_
      have R3 := R2.putL hl6 (ladd (C.2.1 l) (k' l + 1)) (fs := (zLf (ladd (C.2.1 l) (k' l))).set 4 (.int (iI (((C.2.1 l).2.2.2.2 + k' l : Nat) + 1 : Int)))) rfl
      refine z_aload_n F dX2_sightShips_78 rfl rfl ?_
      refine z_dup F dX2_sightShips_79 rfl ?_
      refine z_getfield F fl_X2_52 dX2_sightShips_80 R3.ob (by decide) rfl ?_
      refine zi_iconst F dX2_sightShips_83 ?_
      refine zi_iadd F dX2_sightShips_84 ?_
      refine z_putfield F fp_X2_52 dX2_sightShips_85 (zmut_of F (by omega)) R3.ob (by decide) (Nat.le_of_ble_eq_true rfl) ⟨rfl, rfl⟩ ?_
      exact go2 (zup k' l (k' l + 1)) _ (kstep (q := fun l' => f_swp C (C.2.1 l') c) hk' (by rw [zup_s, hk'l]; simp only [c59]; rfl) (fun l' e => zup_n e)) (by have R4 := (R3.cgL (L := fun l' => ladd (C.2.1 l') (zup k' l (k' l + 1) l')) (fun l' h9 => by show zup _ l _ l' = _; by_cases e : l' = l; { rw [e, zup_s, zup_s] }; { rw [zup_n e, zup_n e]; rfl })); have R5 := R4.putO (f_sgC C (zup k' l (k' l + 1)) L (zsum (f_sgn C) i + zcnt (fun l => f_swp C (C.2.1 l) c) l + 1)) (fs := (zCf b (f_sgC C k' L (zsum (f_sgn C) i + zcnt (fun l => f_swp C (C.2.1 l) c) l))).set 6 (.int (iI ((C.2.2.2.2.2.1 + (zsum (f_sgn C) i + zcnt (fun l => f_swp C (C.2.1 l) c) l) : Nat) + 1 : Int)))) rfl rfl rfl rfl; rw [zcnt_t (p := fun l => f_swp C (C.2.1 l) c) c59]; exact R5) ((s2.set ⟨by omega, by omega⟩).set ⟨by omega, by omega⟩) _ rfl
end
