/-! groups of cells -/
def zGp (g : Nat) (p : Nat → Nat) (h : zH) : Prop := h[g]? = some (4, [.ref (g + 1)]) ∧ h[g + 1]? = some (100, zar 64 (fun c => .int (iI (p c))))
theorem zGp.same {g : Nat} {p : Nat → Nat} {h h' : zH} {S : Nat → Prop} (R : zGp g p h) (s : zSame S h h') (hS : ∀ a, g ≤ a → a < g + 2 → ¬ S a) : zGp g p h' := ⟨s.get R.1 (hS _ (by omega) (by omega)), s.get R.2 (hS _ (by omega) (by omega))⟩
def f_root (p : Nat → Nat) : Nat → Nat → Nat
  | 0, c => c
  | n + 1, c => if p c = c then c else f_root p n (p c)
def pOk (p : Nat → Nat) : Prop := ∀ c, c < 64 → p c < 64
theorem f_root_lt {p : Nat → Nat} (hp : pOk p) : ∀ {n c : Nat}, c < 64 → f_root p n c < 64
  | 0, c, h => h
  | n + 1, c, h => by
    unfold f_root
    split
    · exact h
    · exact f_root_lt hp (hp c h)
section
variable {g b K : Nat} {p : Nat → Nat} {σ τ : Nat → Nat} {C : zCo} {h : zH}
theorem zGp.put (R : zGp g p h) (k : Nat) (v : Nat) {x : Int32} (e : x = iI v) : zGp g (zup p k v) (h.set (g + 1) (100, (zar 64 (fun c => .int (iI (p c)))).set k (.int x))) := by
  subst e
  exact ⟨zkeep R.1 (by omega), by rw [zset_same R.2, zar_up 64 k (fun (v : Nat) => .int (iI v))]⟩
theorem zGp.cg (R : zGp g p h) {q : Nat → Nat} (e : ∀ i, i < 64 → p i = q i) : zGp g q h := ⟨R.1, by rw [R.2]; congr 2; exact zar_congr fun k hk => by rw [e k hk]⟩
theorem m_separate (hg : zNR ≤ g) (G : zGp g p h) : zMet yX1_separate cX1_separate 2 none 1 0 0 [.ref g] h (fun v h' => v = none ∧ zGp g (fun c => c) h' ∧ zSame (zIn g 2) h h') (fun _ _ => False) := by
  refine zMet.go (by decide +kernel) (Nat.le_of_ble_eq_true rfl) ?_
  intro X F B hnl hR hn
  refine zi_iconst F dX1_separate_0 ?_
  refine z_istore_n F dX1_separate_1 rfl rfl (hnl _ rfl) ?_
  suffices KK : ∀ n i : Nat, n + i = 64 → ∀ (p1 : Nat → Nat) (h1 : zH), (∀ j, j < i → p1 j = (fun c => c) j) → zGp g p1 h1 → zSame (zIn g 2) h h1 → Z X 0 0 2 [(1, .int (iI i)), (0, .ref g)] [] h1 from Z.keys [1, 0] rfl (KK 64 0 rfl p h (fun j hj => absurd hj (Nat.not_lt_zero j)) G zSame.rf)
  intro n
  induction n with
  | zero =>
    intro i hi p1 h1 ho G1 s1
    refine z_iload_n F dX1_separate_2 rfl rfl ?_
    refine zi_bipush F dX1_separate_3 (by decide) ?_
    refine zi_icmp_ge (tgt := 21) F dX1_separate_5 (by decide) (by omega) (fun c5 => ?_) (fun c5 => False.elim (by omega))
    exact z_return F B dX1_separate_21 ⟨rfl, G1.cg (fun j hj => ho j (by omega)), s1⟩
  | succ n ih =>
    intro i hi p1 h1 ho G1 s1
    refine z_iload_n F dX1_separate_2 rfl rfl ?_
    refine zi_bipush F dX1_separate_3 (by decide) ?_
    refine zi_icmp_ge (tgt := 21) F dX1_separate_5 (by decide) (by omega) (fun c5 => False.elim (by omega)) (fun c5 => ?_)
    refine z_aload_n F dX1_separate_8 rfl rfl ?_
    refine z_getfield F fl_X1_9 dX1_separate_9 G1.1 (by decide) rfl ?_
    refine z_iload_n F dX1_separate_12 rfl rfl ?_
    refine z_iload_n F dX1_separate_13 rfl rfl ?_
    refine zi_iastore (i := i) F dX1_separate_14 (zmut_of F (by omega)) G1.2 rfl (by rw [zar_len]; omega) ?_
    refine zi_iinc F dX1_separate_15 rfl rfl (hnl _ rfl) ?_
    refine z_goto (tgt := 2) F dX1_separate_18 (by decide) ?_
    exact Z.keys [1, 0] rfl (ih (i + 1) (by omega) _ _ (zup_ext (g := fun c => c) ho) (G1.put i i rfl) (s1.set ⟨by omega, by omega⟩))
theorem m_rootOf {c : Nat} (hc : c < 64) (hp : pOk p) (G : zGp g p h) : zMet yX1_rootOf cX1_rootOf 4 (some .int) 1 0 0 [.ref g, .int (iI c)] h (fun v h' => v = some (.int (iI (f_root p 64 c))) ∧ h' = h) (fun _ _ => False) := by
  refine zMet.go (by decide +kernel) (Nat.le_of_ble_eq_true rfl) ?_
  intro X F B hnl hR hn
  refine z_iload_n F dX1_rootOf_0 rfl rfl ?_
  refine z_istore_n F dX1_rootOf_1 rfl rfl (hnl _ rfl) ?_
  refine zi_iconst F dX1_rootOf_2 ?_
  refine z_istore_n F dX1_rootOf_3 rfl rfl (hnl _ rfl) ?_
  suffices KK : ∀ n i r : Nat, n + i = 64 → r < 64 → f_root p 64 c = f_root p n r → Z X 0 0 4 [(3, .int (iI i)), (2, .int (iI r)), (0, .ref g)] [] h from Z.keys [3, 2, 0] rfl (KK 64 0 c rfl hc rfl)
  intro n
  induction n with
  | zero =>
    intro i r hi hr he
    refine z_iload_n F dX1_rootOf_4 rfl rfl ?_
    refine zi_bipush F dX1_rootOf_5 (by decide) ?_
    refine zi_icmp_ge (tgt := 33) F dX1_rootOf_7 (by decide) (by omega) (fun c7 => ?_) (fun c7 => False.elim (by omega))
    refine z_iload_n F dX1_rootOf_33 rfl rfl ?_
    exact z_ireturn F rfl B dX1_rootOf_34 ⟨vInt (by rw [he]; rfl), rfl⟩
  | succ n ih =>
    intro i r hi hr he
    have hpr := hp r hr
    replace he : f_root p 64 c = if p r = r then r else f_root p n (p r) := he
    refine z_iload_n F dX1_rootOf_4 rfl rfl ?_
    refine zi_bipush F dX1_rootOf_5 (by decide) ?_
    refine zi_icmp_ge (tgt := 33) F dX1_rootOf_7 (by decide) (by omega) (fun c7 => False.elim (by omega)) (fun c7 => ?_)
    refine z_aload_n F dX1_rootOf_10 rfl rfl ?_
    refine z_getfield F fl_X1_9 dX1_rootOf_11 G.1 (by decide) rfl ?_
    refine z_iload_n F dX1_rootOf_14 rfl rfl ?_
    refine zi_iaload (i := r) F dX1_rootOf_15 G.2 rfl (by omega) (zar_get (by omega)) ?_
    refine z_iload_n F dX1_rootOf_16 rfl rfl ?_
    refine zi_icmp_eq (tgt := 33) F dX1_rootOf_17 (by decide) (by omega) (fun c17 => ?_) (fun c17 => ?_)
    · refine z_iload_n F dX1_rootOf_33 rfl rfl ?_
      exact z_ireturn F rfl B dX1_rootOf_34 ⟨vInt (by rw [he, if_pos (by omega)]), rfl⟩
    · refine z_aload_n F dX1_rootOf_20 rfl rfl ?_
      refine z_getfield F fl_X1_9 dX1_rootOf_21 G.1 (by decide) rfl ?_
      refine z_iload_n F dX1_rootOf_24 rfl rfl ?_
      refine zi_iaload (i := r) F dX1_rootOf_25 G.2 rfl (by omega) (zar_get (by omega)) ?_
      refine z_istore_n F dX1_rootOf_26 rfl rfl (hnl _ rfl) ?_
      refine zi_iinc F dX1_rootOf_27 rfl rfl (hnl _ rfl) ?_
      refine z_goto (tgt := 4) F dX1_rootOf_30 (by decide) ?_
      exact Z.keys [3, 2, 0] rfl (ih (i + 1) (p r) (by omega) hpr (by rw [he, if_neg (by omega)]))
/-- one direction of one cell of this depth -/
def uStep (C : zCo) (d c k : Nat) (p : Nat → Nat) : Nat → Nat := match zNb c k with
  | none => p
  | some t => if d ≤ C.1 t then zup p (f_root p 64 t) (f_root p 64 c) else p
def uIn (C : zCo) (d c : Nat) : Nat → Nat → (Nat → Nat) → (Nat → Nat)
  | 0, _, p => p
  | n + 1, k, p => uIn C d c n (k + 1) (uStep C d c k p)
def uAll (C : zCo) (d : Nat) : Nat → Nat → (Nat → Nat) → (Nat → Nat)
  | 0, _, p => p
  | n + 1, c, p => uAll C d n (c + 1) (if C.1 c = d then uIn C d c 4 0 p else p)
theorem uStep_ok {C : zCo} {d c k : Nat} {p : Nat → Nat} (hc : c < 64) (hp : pOk p) : pOk (uStep C d c k p) := by
  unfold uStep
  cases hz : zNb c k with
  | none => exact hp
  | some t =>
    dsimp only
    split
    · intro x hx
      by_cases e : x = f_root p 64 t
      · rw [e, zup_s]; exact f_root_lt hp hc
      · rw [zup_n e]; exact hp x hx
    · exact hp
theorem uIn_ok {C : zCo} {d c : Nat} (hc : c < 64) : ∀ {n k : Nat} {p : Nat → Nat}, pOk p → pOk (uIn C d c n k p)
  | 0, _, _, h => h
  | n + 1, k, p, h => uIn_ok hc (n := n) (k := k + 1) (uStep_ok (k := k) hc h)
theorem uAll_ok {C : zCo} {d : Nat} : ∀ {n c : Nat} {p : Nat → Nat}, n + c ≤ 64 → pOk p → pOk (uAll C d n c p)
  | 0, _, _, _, h => h
  | n + 1, c, p, hn, h => by
    unfold uAll
    split
    · exact uAll_ok (by omega) (uIn_ok (by omega) h)
    · exact uAll_ok (by omega) h
theorem m_uniteAt {d : Nat} (hg : zNR ≤ g) (hb : b + 16 ≤ g ∨ g + 2 ≤ b) (R : zRepC b σ τ C h) (G : zGp g p h) (hp : pOk p) (hO : zOk K C) (hd : d ≤ 9) : zMet yX1_uniteAt cX1_uniteAt 6 none 2 0 0 [.ref g, .ref b, .int (iI d)] h (fun v h' => v = none ∧ zGp g (uAll C d 64 0 p) h' ∧ zSame (zIn g 2) h h') (fun _ _ => False) := by
  refine zMet.go (by decide +kernel) (Nat.le_of_ble_eq_true rfl) ?_
  intro X F B hnl hR hn
  have hS : ∀ a, b ≤ a → a < b + 16 → ¬ zIn g 2 a := fun a g1 g2 g3 => by have := g3.1; have := g3.2; omega
  refine zi_iconst F dX1_uniteAt_0 ?_
  refine z_istore_n F dX1_uniteAt_1 rfl rfl (hnl _ rfl) ?_
  suffices KK : ∀ n c : Nat, n + c = 64 → ∀ (p1 : Nat → Nat) (h1 : zH), pOk p1 → uAll C d 64 0 p = uAll C d n c p1 → zGp g p1 h1 → zSame (zIn g 2) h h1 → Z X 0 0 2 [(3, .int (iI c)), (0, .ref g), (1, .ref b), (2, .int (iI d))] [] h1 from Z.keys [3, 0, 1, 2] rfl (KK 64 0 rfl p h hp rfl G zSame.rf)
  intro n
  induction n with
  | zero =>
    intro c hc p1 h1 hp1 he G1 s1
    refine z_iload_n F dX1_uniteAt_2 rfl rfl ?_
    refine zi_bipush F dX1_uniteAt_3 (by decide) ?_
    refine zi_icmp_ge (tgt := 82) F dX1_uniteAt_5 (by decide) (by omega) (fun c5 => ?_) (fun c5 => False.elim (by omega))
    exact z_return F B dX1_uniteAt_82 ⟨rfl, by rw [he]; exact G1, s1⟩
  | succ n ih =>
    intro c hc p1 h1 hp1 he G1 s1
    have R1 := R.same s1 hS
    have h9 := hO.1 c
    replace he : uAll C d 64 0 p = uAll C d n (c + 1) (if C.1 c = d then uIn C d c 4 0 p1 else p1) := he
    refine z_iload_n F dX1_uniteAt_2 rfl rfl ?_
    refine zi_bipush F dX1_uniteAt_3 (by decide) ?_
    refine zi_icmp_ge (tgt := 82) F dX1_uniteAt_5 (by decide) (by omega) (fun c5 => False.elim (by omega)) (fun c5 => ?_)
    refine z_aload_n F dX1_uniteAt_8 rfl rfl ?_
    refine z_getfield F fl_X1_15 dX1_uniteAt_9 R1.ob (by decide) rfl ?_
    refine z_iload_n F dX1_uniteAt_12 rfl rfl ?_
    refine zi_iaload (i := c) F dX1_uniteAt_13 R1.dp rfl (by omega) (zar_get (by omega)) ?_
    refine z_iload_n F dX1_uniteAt_14 rfl rfl ?_
    refine zi_icmp_eq (tgt := 21) F dX1_uniteAt_15 (by decide) (by omega) (fun c15 => ?_) (fun c15 => ?_); rotate_left
    · refine z_goto (tgt := 76) F dX1_uniteAt_18 (by decide) ?_
      refine zi_iinc F dX1_uniteAt_76 rfl rfl (hnl _ rfl) ?_
      refine z_goto (tgt := 2) F dX1_uniteAt_79 (by decide) ?_
      exact Z.keys [3, 0, 1, 2] rfl (ih (c + 1) (by omega) p1 h1 hp1 (by rw [he, if_neg (by omega)]) G1 s1)
    rw [if_pos (by omega)] at he
    refine zi_iconst F dX1_uniteAt_21 ?_
    refine z_istore F dX1_uniteAt_22 rfl (hnl _ rfl) ?_
    suffices KI : ∀ m k : Nat, m + k = 4 → ∀ (p2 : Nat → Nat) (h2 : zH), pOk p2 → uIn C d c 4 0 p1 = uIn C d c m k p2 → zGp g p2 h2 → zSame (zIn g 2) h h2 → Z X 0 0 24 [(4, .int (iI k)), (3, .int (iI c)), (0, .ref g), (1, .ref b), (2, .int (iI d))] [] h2 from Z.keys [4, 3, 0, 1, 2] rfl (KI 4 0 rfl p1 h1 hp1 rfl G1 s1)
    intro m
    induction m with
    | zero =>
      intro k hk p2 h2 hp2 he1 G2 s2
      refine z_iload F dX1_uniteAt_24 rfl ?_
      refine zi_iconst F dX1_uniteAt_26 ?_
      refine zi_icmp_ge (tgt := 76) F dX1_uniteAt_27 (by decide) (by omega) (fun c27 => ?_) (fun c27 => False.elim (by omega))
      refine zi_iinc F dX1_uniteAt_76 rfl rfl (hnl _ rfl) ?_
      refine z_goto (tgt := 2) F dX1_uniteAt_79 (by decide) ?_
      exact Z.keys [3, 0, 1, 2] rfl (ih (c + 1) (by omega) p2 h2 hp2 (by rw [he, he1]; rfl) G2 s2)
    | succ m im =>
      intro k hk p2 h2 hp2 he1 G2 s2
      have R2 := R.same s2 hS
      replace he1 : uIn C d c 4 0 p1 = uIn C d c m (k + 1) (uStep C d c k p2) := he1
      have hk2 := uStep_ok (C := C) (d := d) (k := k) (by omega : c < 64) hp2
      have st : uStep C d c k p2 = match zNb c k with
        | none => p2
        | some t => if d ≤ C.1 t then zup p2 (f_root p2 64 t) (f_root p2 64 c) else p2 := rfl
      have rc := f_root_lt hp2 (n := 64) (c := c) (by omega)
      cases hz : zNb c k with
      | none =>
        rw [hz] at st
        refine z_iload F dX1_uniteAt_24 rfl ?_
        refine zi_iconst F dX1_uniteAt_26 ?_
        refine zi_icmp_ge (tgt := 76) F dX1_uniteAt_27 (by decide) (by omega) (fun c27 => False.elim (by omega)) (fun c27 => ?_)
        refine z_iload_n F dX1_uniteAt_30 rfl rfl ?_
        refine z_iload F dX1_uniteAt_31 rfl ?_
        refine z_callSN F B cal_yX10_neighbour (m_neighbour (by omega) (by omega) _) dX1_uniteAt_33 rfl rfl (Nat.le_of_ble_eq_true rfl) (by decide) (by decide) (by decide) ml_X1_20 st_yX10_neighbour (fun v hX qX => ?_) (fun C h1 q => q.elim)
        obtain ⟨rfl, qX⟩ := qX
        rw [qX]
        clear qX hX
        rw [hz, show zGo none = -1 from rfl]
        refine z_istore F dX1_uniteAt_36 rfl (hnl _ rfl) ?_
        refine z_iload F dX1_uniteAt_38 rfl ?_
        refine zi_iconst F dX1_uniteAt_40 ?_
        refine zi_icmp_eq (tgt := 70) F dX1_uniteAt_41 (by decide) (by omega) (fun c41 => ?_) (fun c41 => False.elim (by omega))
        refine zi_iinc F dX1_uniteAt_70 rfl rfl (hnl _ rfl) ?_
        refine z_goto (tgt := 24) F dX1_uniteAt_73 (by decide) ?_
        exact Z.keys [4, 3, 0, 1, 2] rfl (im (k + 1) (by omega) p2 h2 hp2 (by rw [he1, st]) G2 s2)
      | some t =>
        have ht := zNb_lt (by omega) hz
        have ht9 := hO.1 t
        have rt := f_root_lt hp2 (n := 64) ht
        rw [hz] at st
        dsimp only at st
        refine z_iload F dX1_uniteAt_24 rfl ?_
        refine zi_iconst F dX1_uniteAt_26 ?_
        refine zi_icmp_ge (tgt := 76) F dX1_uniteAt_27 (by decide) (by omega) (fun c27 => False.elim (by omega)) (fun c27 => ?_)
        refine z_iload_n F dX1_uniteAt_30 rfl rfl ?_
        refine z_iload F dX1_uniteAt_31 rfl ?_
        refine z_callSN F B cal_yX10_neighbour (m_neighbour (by omega) (by omega) _) dX1_uniteAt_33 rfl rfl (Nat.le_of_ble_eq_true rfl) (by decide) (by decide) (by decide) ml_X1_20 st_yX10_neighbour (fun v hX qX => ?_) (fun C h1 q => q.elim)
        obtain ⟨rfl, qX⟩ := qX
        rw [qX]
        clear qX hX
        rw [hz, show zGo (some t) = (t : Int) from rfl]
        refine z_istore F dX1_uniteAt_36 rfl (hnl _ rfl) ?_
        refine z_iload F dX1_uniteAt_38 rfl ?_
        refine zi_iconst F dX1_uniteAt_40 ?_
        refine zi_icmp_eq (tgt := 70) F dX1_uniteAt_41 (by decide) (by omega) (fun c41 => False.elim (by omega)) (fun c41 => ?_)
        refine z_aload_n F dX1_uniteAt_44 rfl rfl ?_
        refine z_iload F dX1_uniteAt_45 rfl ?_
        refine z_callV F B cal_yX2_depthOf (m_depthOf R2 (by omega)) dX1_uniteAt_47 rfl rfl (Nat.le_of_ble_eq_true rfl) (by decide) (by decide) (by decide) ml_X1_24 im_yX2_depthOf se_yX2_depthOf R2.ob (by decide) rfl rfl (fun v hX qX => ?_) (fun C h1 q => q.elim)
        obtain ⟨rfl, qX⟩ := qX
        rw [qX]
        clear qX hX
        rw [f_dep_n ht]
        refine z_iload_n F dX1_uniteAt_50 rfl rfl ?_
        refine zi_icmp_lt (tgt := 70) F dX1_uniteAt_51 (by decide) (by omega) (fun c51 => ?_) (fun c51 => ?_)
        · refine zi_iinc F dX1_uniteAt_70 rfl rfl (hnl _ rfl) ?_
          refine z_goto (tgt := 24) F dX1_uniteAt_73 (by decide) ?_
          first | exact Z.keys [4, 3, 0, 1, 2] rfl (im (k + 1) (by omega) p2 h2 hp2 (by rw [he1, st, if_neg (by omega)]) G2 s2) | exact Z.keys [4, 3, 0, 1, 2] rfl (im (k + 1) (by omega) _ _ hk2 he1 (by rw [st, if_pos (by omega)]; exact G2.put _ _ rfl) (s2.set ⟨by omega, by omega⟩))
        · refine z_aload_n F dX1_uniteAt_54 rfl rfl ?_
          refine z_getfield F fl_X1_9 dX1_uniteAt_55 G2.1 (by decide) rfl ?_
          refine z_aload_n F dX1_uniteAt_58 rfl rfl ?_
          refine z_iload F dX1_uniteAt_59 rfl ?_
          refine z_callV F B cal_yX1_rootOf (m_rootOf ht hp2 G2) dX1_uniteAt_61 rfl rfl (Nat.le_of_ble_eq_true rfl) (by decide) (by decide) (by decide) ml_X1_28 im_yX1_rootOf se_yX1_rootOf G2.1 (by decide) rfl rfl (fun v hX qX => ?_) (fun C h1 q => q.elim)
          obtain ⟨rfl, qX⟩ := qX
          rw [qX]
          clear qX hX
          refine z_aload_n F dX1_uniteAt_64 rfl rfl ?_
          refine z_iload_n F dX1_uniteAt_65 rfl rfl ?_
          refine z_callV F B cal_yX1_rootOf (m_rootOf (by omega) hp2 G2) dX1_uniteAt_66 rfl rfl (Nat.le_of_ble_eq_true rfl) (by decide) (by decide) (by decide) ml_X1_28 im_yX1_rootOf se_yX1_rootOf G2.1 (by decide) rfl rfl (fun v hX qX => ?_) (fun C h1 q => q.elim)
          obtain ⟨rfl, qX⟩ := qX
          rw [qX]
          clear qX hX
          refine zi_iastore (i := (f_root p2 64 t)) F dX1_uniteAt_69 (zmut_of F (by omega)) G2.2 rfl (by rw [zar_len]; omega) ?_
          refine zi_iinc F dX1_uniteAt_70 rfl rfl (hnl _ rfl) ?_
          refine z_goto (tgt := 24) F dX1_uniteAt_73 (by decide) ?_
          first | exact Z.keys [4, 3, 0, 1, 2] rfl (im (k + 1) (by omega) p2 h2 hp2 (by rw [he1, st, if_neg (by omega)]) G2 s2) | exact Z.keys [4, 3, 0, 1, 2] rfl (im (k + 1) (by omega) _ _ hk2 he1 (by rw [st, if_pos (by omega)]; exact G2.put _ _ rfl) (s2.set ⟨by omega, by omega⟩))
end
