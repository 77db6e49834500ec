/-! a light, a ship is taken out; the history -/
def zrg (σ : Nat → Nat) (i j : Nat) : Nat → Nat := fun k => if i ≤ k ∧ k + 1 < j then σ (k + 1) else σ k
/-- place i goes behind the others of n -/
def zrot (i n : Nat) : Nat → Nat := fun k => if i ≤ k ∧ k + 1 < n then k + 1 else if k + 1 = n then i else k
theorem zrg_j (σ : Nat → Nat) (i j : Nat) : zrg σ i j j = σ j := if_neg (by omega)
theorem zrg_0 (σ : Nat → Nat) (i : Nat) : zrg σ i (i + 1) = σ := by funext k; exact if_neg (by omega)
theorem zrg_step (σ : Nat → Nat) {i j : Nat} (hij : i + 1 ≤ j) : (zar 6 (fun k => Value.ref (zrg σ i j k))).set (j - 1) (.ref (σ j)) = zar 6 (fun k => Value.ref (zrg σ i (j + 1) k)) := by
  rw [zar_set]
  refine zar_congr fun k hk => ?_
  by_cases e : k = j - 1
  · subst e
    rw [zup_s, zrg, if_pos (by omega), show j - 1 + 1 = j by omega]
  · rw [zup_n e]
    unfold zrg
    by_cases h : i ≤ k ∧ k + 1 < j
    · rw [if_pos h, if_pos (by omega)]
    · rw [if_neg h, if_neg (by omega)]
theorem zrg_end (σ : Nat → Nat) {i n : Nat} (hin : i < n) : (zar 6 (fun k => Value.ref (zrg σ i n k))).set (n - 1) (.ref (σ i)) = zar 6 (fun k => Value.ref (σ (zrot i n k))) := by
  rw [zar_set]
  refine zar_congr fun k hk => ?_
  unfold zrot
  by_cases e : k = n - 1
  · subst e
    rw [zup_s, if_neg (by omega), if_pos (by omega)]
  · rw [zup_n e]
    unfold zrg
    by_cases h : i ≤ k ∧ k + 1 < n
    · rw [if_pos h, if_pos h]
    · rw [if_neg h, if_neg h, if_neg (by omega)]
theorem zrot_lt {i n k : Nat} (hin : i < n) (hn : n ≤ 6) (hk : k < 6) : zrot i n k < 6 := by unfold zrot; (repeat' split) <;> omega
theorem zrot_inj {i n k j : Nat} (hin : i < n) (e : zrot i n k = zrot i n j) : k = j := by unfold zrot at e; (repeat' split at e) <;> omega
theorem zPm.rot {lo hi i n : Nat} {σ : Nat → Nat} (p : zPm lo hi σ) (hin : i < n) (hn : n ≤ 6) : zPm lo hi (fun k => σ (zrot i n k)) := ⟨fun k hk => p.1 _ (zrot_lt hin hn hk), fun k j hk hj e => zrot_inj hin (p.2 _ _ (zrot_lt hin hn hk) (zrot_lt hin hn hj) e)⟩
section
variable {b i : Nat} {σ τ : Nat → Nat} {C : zCo} {h : zH}
theorem zRepC.rotL {n : Nat} {h' : zH} (R : zRepC b σ τ C h) (hin : i < n) (hn : n ≤ 6) (s2 : zSame (fun a => a = b ∨ a = b + 2) h h') (e0 : h'[b]? = some (5, zCf b (C.1, (fun k => C.2.1 (zrot i n k)), C.2.2.1, (n - 1, C.2.2.2.1.2), C.2.2.2.2))) (e1 : h'[b + 2]? = some (105, zar 6 (fun k => .ref (σ (zrot i n k))))) : zRepC b (fun k => σ (zrot i n k)) τ (C.1, (fun k => C.2.1 (zrot i n k)), C.2.2.1, (n - 1, C.2.2.2.1.2), C.2.2.2.2) h' := by
  obtain ⟨h1, h2, h3, h4, h5, h6, h7, h8⟩ := R
  exact ⟨e0, s2.get h2 (by omega), e1, fun k hk => s2.get (h4 _ (zrot_lt hin hn hk)) (by have := h7.1 _ (zrot_lt hin hn hk); show ¬ (σ (zrot i n k) = b ∨ σ (zrot i n k) = b + 2); omega), s2.get h5 (by omega), fun k hk => s2.get (h6 k hk) (by have := h8.1 k hk; omega), h7.rot hin hn, h8⟩
theorem zRepC.rotS {n : Nat} {h' : zH} (R : zRepC b σ τ C h) (hin : i < n) (hn : n ≤ 6) (s2 : zSame (fun a => a = b ∨ a = b + 3) h h') (e0 : h'[b]? = some (5, zCf b (C.1, C.2.1, (fun k => C.2.2.1 (zrot i n k)), (C.2.2.2.1.1, n - 1), C.2.2.2.2))) (e1 : h'[b + 3]? = some (106, zar 6 (fun k => .ref (τ (zrot i n k))))) : zRepC b σ (fun k => τ (zrot i n k)) (C.1, C.2.1, (fun k => C.2.2.1 (zrot i n k)), (C.2.2.2.1.1, n - 1), C.2.2.2.2) h' := by
  obtain ⟨h1, h2, h3, h4, h5, h6, h7, h8⟩ := R
  exact ⟨e0, s2.get h2 (by omega), s2.get h3 (by omega), fun k hk => s2.get (h4 k hk) (by have := h7.1 k hk; omega), e1, fun k hk => s2.get (h6 _ (zrot_lt hin hn hk)) (by have := h8.1 _ (zrot_lt hin hn hk); show ¬ (τ (zrot i n k) = b ∨ τ (zrot i n k) = b + 3); omega), h7, h8.rot hin hn⟩
theorem m_takeLight (hb : zNR ≤ b) (R : zRepC b σ τ C h) (hi : i < C.2.2.2.1.1) (hn6 : C.2.2.2.1.1 ≤ 6) : zMet yX2_takeLight cX2_takeLight 4 none 1 0 0 [.ref b, .int (iI i)] h (fun v h' => v = none ∧ zKo b (C.1, (fun k => C.2.1 (zrot i C.2.2.2.1.1 k)), C.2.2.1, (C.2.2.2.1.1 - 1, C.2.2.2.1.2), C.2.2.2.2) h' ∧ zSame (zIn b 16) h h') (fun _ _ => False) := by
  refine zMet.go (by decide +kernel) (Nat.le_of_ble_eq_true rfl) ?_
  intro X F B hnl hR hn
  refine z_aload_n F dX2_takeLight_0 rfl rfl ?_
  refine z_getfield F fl_X2_17 dX2_takeLight_1 R.ob (by decide) rfl ?_
  refine z_iload_n F dX2_takeLight_4 rfl rfl ?_
  refine zi_aaload (i := i) F dX2_takeLight_5 R.la (by decide) (by decide) rfl rfl (by omega) (zar_get (by omega)) rfl ?_
  refine z_astore_n F dX2_takeLight_6 rfl rfl (hnl _ rfl) ?_
  refine z_iload_n F dX2_takeLight_7 rfl rfl ?_
  refine zi_iconst F dX2_takeLight_8 ?_
  refine zi_iadd F dX2_takeLight_9 ?_
  refine z_istore_n F dX2_takeLight_10 rfl rfl (hnl _ rfl) ?_
  suffices KK : ∀ n j : Nat, n + j = C.2.2.2.1.1 → i + 1 ≤ j → ∀ h1 : zH, h1[b + 2]? = some (105, zar 6 (fun k => .ref (zrg σ i j k))) → zSame (fun a => a = b + 2) h h1 → Z X 0 0 11 [(3, .int (iI j)), (0, .ref b), (1, .int (iI i)), (2, .ref (σ i))] [] h1 from Z.keys [3, 0, 1, 2] rfl (KK (C.2.2.2.1.1 - (i + 1)) (i + 1) (by omega) (Nat.le_refl _) h (by rw [zrg_0]; exact R.la) zSame.rf)
  intro n
  induction n with
  | zero =>
    intro j hj hij h1 e1 s1
    have ob := s1.get R.ob (by omega)
    have ps := R.ps.1 i (by omega)
    have li := s1.get (R.li (i := i) (by omega)) (by omega)
    have hjn : j = C.2.2.2.1.1 := by omega
    subst hjn
    refine z_iload_n F dX2_takeLight_11 rfl rfl ?_
    refine z_aload_n F dX2_takeLight_12 rfl rfl ?_
    refine z_getfield F fl_X2_42 dX2_takeLight_13 ob (by decide) rfl ?_
    refine zi_icmp_ge (tgt := 39) F dX2_takeLight_16 (by decide) (by first | omega | (dsimp only at *; omega)) (fun c16 => ?_) (fun c16 => False.elim (by first | omega | (dsimp only at *; omega)))
    refine z_aload_n F dX2_takeLight_39 rfl rfl ?_
    refine z_dup F dX2_takeLight_40 rfl ?_
    refine z_getfield F fl_X2_42 dX2_takeLight_41 ob (by decide) rfl ?_
    refine zi_iconst F dX2_takeLight_44 ?_
    refine zi_isub F dX2_takeLight_45 ?_
    refine z_putfield F fp_X2_42 dX2_takeLight_46 (zmut_of F (by omega)) ob (by decide) (Nat.le_of_ble_eq_true rfl) ⟨rfl, rfl⟩ ?_
    refine z_aload_n F dX2_takeLight_49 rfl rfl ?_
    refine z_getfield F fl_X2_17 dX2_takeLight_50 (zset_same ob) (by decide) rfl ?_
    refine z_aload_n F dX2_takeLight_53 rfl rfl ?_
    refine z_getfield F fl_X2_42 dX2_takeLight_54 (zset_same ob) (by decide) rfl ?_
    refine z_aload_n F dX2_takeLight_57 rfl rfl ?_
    refine zi_aastore (i := (C.2.2.2.1.1 - 1)) F dX2_takeLight_58 (zmut_of F (by omega)) (zmut_of F (by omega)) (zkeep e1 (by omega)) (by decide) (by decide) (zkeep li (by omega)) (by decide) rfl rfl (by omega) (by rw [zar_len]; omega) ?_
    rw [zrg_end σ hi]
    exact Z.widen (by decide) (by decide) (z_return F B dX2_takeLight_59 ⟨rfl, ⟨_, _, zRepC.rotL R hi hn6 (s2 := zSame.set (S := fun a => a = b ∨ a = b + 2) (zSame.set (S := fun a => a = b ∨ a = b + 2) (s1.weak (fun a q => Or.inr q)) (Or.inl rfl)) (Or.inr rfl)) (by rw [zset_ne (by omega), zset_same ob]; simp [zCf]; congr 2; omega) (zset_same (zkeep e1 (by omega)))⟩, ((s1.weak (fun a q => ⟨by omega, by omega⟩)).set ⟨by omega, by omega⟩).set ⟨by omega, by omega⟩⟩)
  | succ n ih =>
    intro j hj hij h1 e1 s1
    have ob := s1.get R.ob (by omega)
    have ps := R.ps.1 j (by omega)
    have li := s1.get (R.li (i := j) (by omega)) (by omega)
    refine z_iload_n F dX2_takeLight_11 rfl rfl ?_
    refine z_aload_n F dX2_takeLight_12 rfl rfl ?_
    refine z_getfield F fl_X2_42 dX2_takeLight_13 ob (by decide) rfl ?_
    refine zi_icmp_ge (tgt := 39) F dX2_takeLight_16 (by decide) (by first | omega | (dsimp only at *; omega)) (fun c16 => False.elim (by first | omega | (dsimp only at *; omega))) (fun c16 => ?_)
    refine z_aload_n F dX2_takeLight_19 rfl rfl ?_
    refine z_getfield F fl_X2_17 dX2_takeLight_20 ob (by decide) rfl ?_
    refine z_iload_n F dX2_takeLight_23 rfl rfl ?_
    refine zi_iconst F dX2_takeLight_24 ?_
    refine zi_isub F dX2_takeLight_25 ?_
    refine z_aload_n F dX2_takeLight_26 rfl rfl ?_
    refine z_getfield F fl_X2_17 dX2_takeLight_27 ob (by decide) rfl ?_
    refine z_iload_n F dX2_takeLight_30 rfl rfl ?_
    refine zi_aaload (i := j) F dX2_takeLight_31 e1 (by decide) (by decide) rfl rfl (by omega) (zar_get (by omega)) rfl ?_
    rw [zrg_j]
    refine zi_aastore (i := (j - 1)) F dX2_takeLight_32 (zmut_of F (by omega)) (zmut_of F (by omega)) e1 (by decide) (by decide) li (by decide) rfl rfl (by omega) (by rw [zar_len]; omega) ?_
    rw [zrg_step σ hij]
    refine zi_iinc F dX2_takeLight_33 rfl rfl (hnl _ rfl) ?_
    refine z_goto (tgt := 11) F dX2_takeLight_36 (by decide) ?_
    exact Z.keys [3, 0, 1, 2] rfl (ih (j + 1) (by omega) (by omega) _ (zset_same e1) (s1.set rfl))
theorem m_takeShip (hb : zNR ≤ b) (R : zRepC b σ τ C h) (hi : i < C.2.2.2.1.2) (hn6 : C.2.2.2.1.2 ≤ 6) : zMet yX2_takeShip cX2_takeShip 4 none 1 0 0 [.ref b, .int (iI i)] h (fun v h' => v = none ∧ zKo b (C.1, C.2.1, (fun k => C.2.2.1 (zrot i C.2.2.2.1.2 k)), (C.2.2.2.1.1, C.2.2.2.1.2 - 1), C.2.2.2.2) h' ∧ zSame (zIn b 16) h h') (fun _ _ => False) := by
  refine zMet.go (by decide +kernel) (Nat.le_of_ble_eq_true rfl) ?_
  intro X F B hnl hR hn
  refine z_aload_n F dX2_takeShip_0 rfl rfl ?_
  refine z_getfield F fl_X2_23 dX2_takeShip_1 R.ob (by decide) rfl ?_
  refine z_iload_n F dX2_takeShip_4 rfl rfl ?_
  refine zi_aaload (i := i) F dX2_takeShip_5 R.sa (by decide) (by decide) rfl rfl (by omega) (zar_get (by omega)) rfl ?_
  refine z_astore_n F dX2_takeShip_6 rfl rfl (hnl _ rfl) ?_
  refine z_iload_n F dX2_takeShip_7 rfl rfl ?_
  refine zi_iconst F dX2_takeShip_8 ?_
  refine zi_iadd F dX2_takeShip_9 ?_
  refine z_istore_n F dX2_takeShip_10 rfl rfl (hnl _ rfl) ?_
  suffices KK : ∀ n j : Nat, n + j = C.2.2.2.1.2 → i + 1 ≤ j → ∀ h1 : zH, h1[b + 3]? = some (106, zar 6 (fun k => .ref (zrg τ i j k))) → zSame (fun a => a = b + 3) h h1 → Z X 0 0 11 [(3, .int (iI j)), (0, .ref b), (1, .int (iI i)), (2, .ref (τ i))] [] h1 from Z.keys [3, 0, 1, 2] rfl (KK (C.2.2.2.1.2 - (i + 1)) (i + 1) (by omega) (Nat.le_refl _) h (by rw [zrg_0]; exact R.sa) zSame.rf)
  intro n
  induction n with
  | zero =>
    intro j hj hij h1 e1 s1
    have ob := s1.get R.ob (by omega)
    have ps := R.pt.1 i (by omega)
    have li := s1.get (R.si (i := i) (by omega)) (by omega)
    have hjn : j = C.2.2.2.1.2 := by omega
    subst hjn
    refine z_iload_n F dX2_takeShip_11 rfl rfl ?_
    refine z_aload_n F dX2_takeShip_12 rfl rfl ?_
    refine z_getfield F fl_X2_46 dX2_takeShip_13 ob (by decide) rfl ?_
    refine zi_icmp_ge (tgt := 39) F dX2_takeShip_16 (by decide) (by first | omega | (dsimp only at *; omega)) (fun c16 => ?_) (fun c16 => False.elim (by first | omega | (dsimp only at *; omega)))
    refine z_aload_n F dX2_takeShip_39 rfl rfl ?_
    refine z_dup F dX2_takeShip_40 rfl ?_
    refine z_getfield F fl_X2_46 dX2_takeShip_41 ob (by decide) rfl ?_
    refine zi_iconst F dX2_takeShip_44 ?_
    refine zi_isub F dX2_takeShip_45 ?_
    refine z_putfield F fp_X2_46 dX2_takeShip_46 (zmut_of F (by omega)) ob (by decide) (Nat.le_of_ble_eq_true rfl) ⟨rfl, rfl⟩ ?_
    refine z_aload_n F dX2_takeShip_49 rfl rfl ?_
    refine z_getfield F fl_X2_23 dX2_takeShip_50 (zset_same ob) (by decide) rfl ?_
    refine z_aload_n F dX2_takeShip_53 rfl rfl ?_
    refine z_getfield F fl_X2_46 dX2_takeShip_54 (zset_same ob) (by decide) rfl ?_
    refine z_aload_n F dX2_takeShip_57 rfl rfl ?_
    refine zi_aastore (i := (C.2.2.2.1.2 - 1)) F dX2_takeShip_58 (zmut_of F (by omega)) (zmut_of F (by omega)) (zkeep e1 (by omega)) (by decide) (by decide) (zkeep li (by omega)) (by decide) rfl rfl (by omega) (by rw [zar_len]; omega) ?_
    rw [zrg_end τ hi]
    exact Z.widen (by decide) (by decide) (z_return F B dX2_takeShip_59 ⟨rfl, ⟨_, _, zRepC.rotS R hi hn6 (s2 := zSame.set (S := fun a => a = b ∨ a = b + 3) (zSame.set (S := fun a => a = b ∨ a = b + 3) (s1.weak (fun a q => Or.inr q)) (Or.inl rfl)) (Or.inr rfl)) (by rw [zset_ne (by omega), zset_same ob]; simp [zCf]; congr 2; omega) (zset_same (zkeep e1 (by omega)))⟩, ((s1.weak (fun a q => ⟨by omega, by omega⟩)).set ⟨by omega, by omega⟩).set ⟨by omega, by omega⟩⟩)
  | succ n ih =>
    intro j hj hij h1 e1 s1
    have ob := s1.get R.ob (by omega)
    have ps := R.pt.1 j (by omega)
    have li := s1.get (R.si (i := j) (by omega)) (by omega)
    refine z_iload_n F dX2_takeShip_11 rfl rfl ?_
    refine z_aload_n F dX2_takeShip_12 rfl rfl ?_
    refine z_getfield F fl_X2_46 dX2_takeShip_13 ob (by decide) rfl ?_
    refine zi_icmp_ge (tgt := 39) F dX2_takeShip_16 (by decide) (by first | omega | (dsimp only at *; omega)) (fun c16 => False.elim (by first | omega | (dsimp only at *; omega))) (fun c16 => ?_)
    refine z_aload_n F dX2_takeShip_19 rfl rfl ?_
    refine z_getfield F fl_X2_23 dX2_takeShip_20 ob (by decide) rfl ?_
    refine z_iload_n F dX2_takeShip_23 rfl rfl ?_
    refine zi_iconst F dX2_takeShip_24 ?_
    refine zi_isub F dX2_takeShip_25 ?_
    refine z_aload_n F dX2_takeShip_26 rfl rfl ?_
    refine z_getfield F fl_X2_23 dX2_takeShip_27 ob (by decide) rfl ?_
    refine z_iload_n F dX2_takeShip_30 rfl rfl ?_
    refine zi_aaload (i := j) F dX2_takeShip_31 e1 (by decide) (by decide) rfl rfl (by omega) (zar_get (by omega)) rfl ?_
    rw [zrg_j]
    refine zi_aastore (i := (j - 1)) F dX2_takeShip_32 (zmut_of F (by omega)) (zmut_of F (by omega)) e1 (by decide) (by decide) li (by decide) rfl rfl (by omega) (by rw [zar_len]; omega) ?_
    rw [zrg_step τ hij]
    refine zi_iinc F dX2_takeShip_33 rfl rfl (hnl _ rfl) ?_
    refine z_goto (tgt := 11) F dX2_takeShip_36 (by decide) ?_
    exact Z.keys [3, 0, 1, 2] rfl (ih (j + 1) (by omega) (by omega) _ (zset_same e1) (s1.set rfl))
end
/-! the history: coasts in a ring, eight and the prepared one (place 8) -/
def zHis (q : Nat) (π : Nat → Nat) (f c : Nat) (H : Nat → zCo) (h : zH) : Prop :=
  h[q]? = some (8, [.ref (q + 1), .ref (q + 2 + 16 * π 8), .int (iI f), .int (iI c)]) ∧ h[q + 1]? = some (107, zar 8 (fun i => .ref (q + 2 + 16 * π i))) ∧ ((∀ i, i < 9 → π i < 9) ∧ ∀ i j, i < 9 → j < 9 → π i = π j → i = j) ∧ (∀ i, i < 9 → zKo (q + 2 + 16 * π i) (H i) h) ∧ f < 8 ∧ c ≤ 8
def zHi (q f c : Nat) (H : Nat → zCo) (h : zH) : Prop := ∃ π, zHis q π f c H h
theorem zHis.same {q f c : Nat} {π : Nat → Nat} {H : Nat → zCo} {h h' : zH} {S : Nat → Prop} (R : zHis q π f c H h) (s : zSame S h h') (hS : ∀ a, q ≤ a → a < q + 146 → ¬ S a) : zHis q π f c H h' := by
  obtain ⟨h1, h2, h3, h4, h5⟩ := R
  exact ⟨s.get h1 (hS _ (by omega) (by omega)), s.get h2 (hS _ (by omega) (by omega)), h3, fun i hi => (h4 i hi).same s (fun a g1 g2 => hS a (by omega) (by have := h3.1 i hi; omega)), h5⟩
theorem zHi.same {q f c : Nat} {H : Nat → zCo} {h h' : zH} {S : Nat → Prop} (R : zHi q f c H h) (s : zSame S h h') (hS : ∀ a, q ≤ a → a < q + 146 → ¬ S a) : zHi q f c H h' := by
  obtain ⟨π, R⟩ := R
  exact ⟨π, R.same s hS⟩
theorem zSame.wk {b n b' n' : Nat} {h h' : zH} (s : zSame (zIn b n) h h') (h1 : b' ≤ b) (h2 : b + n ≤ b' + n') : zSame (zIn b' n') h h' := s.weak fun a q => ⟨Nat.le_trans h1 q.1, Nat.lt_of_lt_of_le q.2 h2⟩
/-- a coast of the history is written -/
theorem zHis.put {q f c i : Nat} {π : Nat → Nat} {H : Nat → zCo} {h h' : zH} {E : zCo} (R : zHis q π f c H h) (hi : i < 9) (K : zKo (q + 2 + 16 * π i) E h') (s : zSame (zIn (q + 2 + 16 * π i) 16) h h') : zHis q π f c (zup H i E) h' := by
  obtain ⟨h1, h2, h3, h4, h5⟩ := R
  refine ⟨s.get h1 (fun q => by have := q.1; omega), s.get h2 (fun q => by have := q.1; omega), h3, fun j hj => ?_, h5⟩
  by_cases e : j = i
  · subst e; rw [zup_s]; exact K
  · rw [zup_n e]
    refine (h4 j hj).same s (fun a g1 g2 g3 => e (h3.2 j i hj hi ?_))
    have := g3.1; have := g3.2
    omega
section
variable {q b f c : Nat} {H : Nat → zCo} {C : zCo} {h : zH}
theorem m_hprep (hq : zNR ≤ q) (hb : zNR ≤ b) (hd : b + 16 ≤ q ∨ q + 146 ≤ b) (R : zHi q f c H h) (RC : zKo b C h) : zMet yX6_prepare cX6_prepare 2 none 3 0 0 [.ref q, .ref b] h (fun v h' => v = none ∧ zHi q f c (zup H 8 C) h' ∧ zSame (zIn (q + 2) 144) h h') (fun _ _ => False) := by
  refine zMet.go (by decide +kernel) (Nat.le_of_ble_eq_true rfl) ?_
  intro X F B hnl hR hn
  obtain ⟨π, R⟩ := R
  obtain ⟨σ, τ, RC⟩ := RC
  obtain ⟨σ2, τ2, R2⟩ := R.2.2.2.1 8 (by decide)
  have hp := R.2.2.1.1 8 (by decide)
  refine z_aload_n F dX6_prepare_0 rfl rfl ?_
  refine z_getfield F fl_X6_18 dX6_prepare_1 R.1 (by decide) rfl ?_
  refine z_aload_n F dX6_prepare_4 rfl rfl ?_
  refine z_callV F B cal_yX2_copyFrom (m_ccopy (by omega) (by omega) (by omega) R2 RC) dX6_prepare_5 rfl rfl (Nat.le_of_ble_eq_true rfl) (by decide) (by decide) (by decide) ml_X6_22 im_yX2_copyFrom se_yX2_copyFrom R2.ob (by decide) rfl rfl (fun v hX qX => ?_) (fun C h1 q => q.elim)
  obtain ⟨rfl, q1, q2⟩ := qX
  exact Z.widen (by decide) (by decide) (z_return F B dX6_prepare_8 ⟨rfl, ⟨π, R.put (by decide) ⟨_, _, q1⟩ q2⟩, q2.wk (by omega) (by omega)⟩)
theorem m_hroll (hq : zNR ≤ q) (hb : zNR ≤ b) (hd : b + 16 ≤ q ∨ q + 146 ≤ b) (R : zHi q f c H h) (RC : zKo b C h) : zMet yX6_rollBack cX6_rollBack 2 none 3 0 0 [.ref q, .ref b] h (fun v h' => v = none ∧ zKo b (H 8) h' ∧ zSame (zIn b 16) h h') (fun _ _ => False) := by
  refine zMet.go (by decide +kernel) (Nat.le_of_ble_eq_true rfl) ?_
  intro X F B hnl hR hn
  obtain ⟨π, R⟩ := R
  obtain ⟨σ, τ, RC⟩ := RC
  obtain ⟨σ2, τ2, R2⟩ := R.2.2.2.1 8 (by decide)
  have hp := R.2.2.1.1 8 (by decide)
  refine z_aload_n F dX6_rollBack_0 rfl rfl ?_
  refine z_aload_n F dX6_rollBack_1 rfl rfl ?_
  refine z_getfield F fl_X6_18 dX6_rollBack_2 R.1 (by decide) rfl ?_
  refine z_callV F B cal_yX2_copyFrom (m_ccopy (by omega) (by omega) (by omega) RC R2) dX6_rollBack_5 rfl rfl (Nat.le_of_ble_eq_true rfl) (by decide) (by decide) (by decide) ml_X6_22 im_yX2_copyFrom se_yX2_copyFrom RC.ob (by decide) rfl rfl (fun v hX qX => ?_) (fun C h1 q => q.elim)
  obtain ⟨rfl, q1, q2⟩ := qX
  exact Z.widen (by decide) (by decide) (z_return F B dX6_rollBack_8 ⟨rfl, ⟨_, _, q1⟩, q2⟩)
/-- the prepared one and place p change places -/
def zsw {α : Type} (H : Nat → α) (p : Nat) : Nat → α := fun i => if i = p then H 8 else if i = 8 then H p else H i
def f_kf (f c : Nat) : Nat := if c < 8 then f else (f + 1) % 8
def f_kc (c : Nat) : Nat := if c < 8 then c + 1 else c
theorem zsw_inj {π : Nat → Nat} {p : Nat} (hp : p < 8) (h : ∀ i j, i < 9 → j < 9 → π i = π j → i = j) : ∀ i j, i < 9 → j < 9 → zsw π p i = zsw π p j → i = j := by
  intro i j hi hj e
  unfold zsw at e
  (repeat' split at e) <;> first | omega | (have := h _ _ (by omega) (by omega) e; omega)
theorem zsw_lt {π : Nat → Nat} {p : Nat} (hp : p < 8) (h : ∀ i, i < 9 → π i < 9) : ∀ i, i < 9 → zsw π p i < 9 := by
  intro i hi
  unfold zsw
  (repeat' split) <;> exact h _ (by omega)
theorem m_hkeep (hq : zNR ≤ q) (R : zHi q f c H h) : zMet yX6_keep cX6_keep 3 none 1 0 0 [.ref q] h (fun v h' => v = none ∧ zHi q (f_kf f c) (f_kc c) (zsw H ((f + c) % 8)) h' ∧ zSame (zIn q 2) h h') (fun _ _ => False) := by
  refine zMet.go (by decide +kernel) (Nat.le_of_ble_eq_true rfl) ?_
  intro X F B hnl hR hn
  obtain ⟨π, o1, o2, o3, o4, o5, o6⟩ := R
  have hp := o3.1 8 (by decide)
  have hp8 : (f + c) % 8 < 8 := Nat.mod_lt _ (by decide)
  have hpp := o3.1 ((f + c) % 8) (by omega)
  obtain ⟨σ2, τ2, R2⟩ := o4 8 (by decide)
  obtain ⟨σ3, τ3, R3⟩ := o4 ((f + c) % 8) (by omega)
  have e8 : zsw π ((f + c) % 8) 8 = π ((f + c) % 8) := by unfold zsw; rw [if_neg (by omega), if_pos rfl]
  have ea : (zar 8 (fun i => Value.ref (q + 2 + 16 * π i))).set ((f + c) % 8) (.ref (q + 2 + 16 * π 8)) = zar 8 (fun i => Value.ref (q + 2 + 16 * zsw π ((f + c) % 8) i)) := by
    rw [zar_set]
    refine zar_congr fun k hk => ?_
    unfold zsw
    by_cases e : k = (f + c) % 8
    · rw [if_pos e, e, zup_s]
    · rw [if_neg e, if_neg (by omega), zup_n e]
  have fin : ∀ (F2 : Nat) (c2 : Nat) (h' : zH), F2 < 8 → c2 ≤ 8 → zSame (zIn q 2) h h' → h'[q]? = some (8, [.ref (q + 1), .ref (q + 2 + 16 * π ((f + c) % 8)), .int (iI F2), .int (iI c2)]) → h'[q + 1]? = some (107, zar 8 (fun i => Value.ref (q + 2 + 16 * zsw π ((f + c) % 8) i))) → zHi q F2 c2 (zsw H ((f + c) % 8)) h' := fun F2 c2 h' a1 a2 s a3 a4 => ⟨zsw π ((f + c) % 8), by rw [e8]; exact a3, a4, ⟨zsw_lt hp8 o3.1, zsw_inj hp8 o3.2⟩, fun i hi => by
    have hK : ∀ j, j < 9 → zKo (q + 2 + 16 * π j) (H j) h' := fun j hj => (o4 j hj).same s (fun a g1 g2 g3 => by have := g3.2; omega)
    unfold zsw
    (repeat' split) <;> exact hK _ (by omega), a1, a2⟩
  refine z_aload_n F dX6_keep_0 rfl rfl ?_
  refine z_getfield F fl_X6_26 dX6_keep_1 o1 (by decide) rfl ?_
  refine z_aload_n F dX6_keep_4 rfl rfl ?_
  refine z_getfield F fl_X6_30 dX6_keep_5 o1 (by decide) rfl ?_
  refine zi_iadd F dX6_keep_8 ?_
  refine zi_bipush F dX6_keep_9 (by decide) ?_
  refine zi_irem F dX6_keep_11 (by omega) ?_
  refine z_istore_n F dX6_keep_12 rfl rfl (hnl _ rfl) ?_
  refine z_aload_n F dX6_keep_13 rfl rfl ?_
  refine z_getfield F fl_X6_11 dX6_keep_14 o1 (by decide) rfl ?_
  refine z_iload_n F dX6_keep_17 rfl rfl ?_
  refine zi_aaload (i := ((f + c) % 8)) F dX6_keep_18 o2 (by decide) (by decide) rfl (by omega) (by omega) (zar_get (by omega)) rfl ?_
  refine z_astore_n F dX6_keep_19 rfl rfl (hnl _ rfl) ?_
  refine z_aload_n F dX6_keep_20 rfl rfl ?_
  refine z_getfield F fl_X6_11 dX6_keep_21 o1 (by decide) rfl ?_
  refine z_iload_n F dX6_keep_24 rfl rfl ?_
  refine z_aload_n F dX6_keep_25 rfl rfl ?_
  refine z_getfield F fl_X6_18 dX6_keep_26 o1 (by decide) rfl ?_
  refine zi_aastore (i := ((f + c) % 8)) F dX6_keep_29 (zmut_of F (by omega)) (zmut_of F (by omega)) o2 (by decide) (by decide) R2.ob (by decide) rfl rfl (by omega) (by rw [zar_len]; omega) ?_
  rw [ea]
  refine z_aload_n F dX6_keep_30 rfl rfl ?_
  refine z_aload_n F dX6_keep_31 rfl rfl ?_
  refine z_putfield F fp_X6_18 dX6_keep_32 (zmut_of F (by omega)) (zkeep o1 (by omega)) (by decide) (Nat.le_of_ble_eq_true rfl) ⟨rfl, rfl⟩ ?_
  refine z_aload_n F dX6_keep_35 rfl rfl ?_
  refine z_getfield F fl_X6_30 dX6_keep_36 (zset_same (zkeep o1 (by omega))) (by decide) rfl ?_
  refine zi_bipush F dX6_keep_39 (by decide) ?_
  refine zi_icmp_ge (tgt := 57) F dX6_keep_41 (by decide) (by first | omega | (dsimp only at *; omega)) (fun c41 => ?_) (fun c41 => ?_)
  · refine z_aload_n F dX6_keep_57 rfl rfl ?_
    refine z_aload_n F dX6_keep_58 rfl rfl ?_
    refine z_getfield F fl_X6_26 dX6_keep_59 (zset_same (zkeep o1 (by omega))) (by decide) rfl ?_
    refine zi_iconst F dX6_keep_62 ?_
    refine zi_iadd F dX6_keep_63 ?_
    refine zi_bipush F dX6_keep_64 (by decide) ?_
    refine zi_irem F dX6_keep_66 (by omega) ?_
    refine zi_putS F fp_X6_26 dX6_keep_67 (zmut_of F (by omega)) (zkeep o1 (by omega)) (by decide) (Nat.le_of_ble_eq_true rfl) ⟨rfl, rfl⟩ ?_
    exact Z.widen (by decide) (by decide) (z_return F B dX6_keep_70 ⟨rfl, fin _ _ _ (by unfold f_kf; split <;> omega) (by unfold f_kc; split <;> omega) ((zSame.rf.set ⟨by omega, by omega⟩).set ⟨by omega, by omega⟩) (by rw [zset_same (zkeep o1 (by omega))]; unfold f_kf f_kc; first | (rw [if_pos (by omega), if_pos (by omega)]; rfl) | (rw [if_neg (by omega), if_neg (by omega)]; rfl)) (zkeep (zset_same o2) (by omega)), (zSame.rf.set ⟨by omega, by omega⟩).set ⟨by omega, by omega⟩⟩)
  · refine z_aload_n F dX6_keep_44 rfl rfl ?_
    refine z_dup F dX6_keep_45 rfl ?_
    refine z_getfield F fl_X6_30 dX6_keep_46 (zset_same (zkeep o1 (by omega))) (by decide) rfl ?_
    refine zi_iconst F dX6_keep_49 ?_
    refine zi_iadd F dX6_keep_50 ?_
    refine zi_putS F fp_X6_30 dX6_keep_51 (zmut_of F (by omega)) (zkeep o1 (by omega)) (by decide) (Nat.le_of_ble_eq_true rfl) ⟨rfl, rfl⟩ ?_
    refine z_goto (tgt := 70) F dX6_keep_54 (by decide) ?_
    exact Z.widen (by decide) (by decide) (z_return F B dX6_keep_70 ⟨rfl, fin _ _ _ (by unfold f_kf; split <;> omega) (by unfold f_kc; split <;> omega) ((zSame.rf.set ⟨by omega, by omega⟩).set ⟨by omega, by omega⟩) (by rw [zset_same (zkeep o1 (by omega))]; unfold f_kf f_kc; first | (rw [if_pos (by omega), if_pos (by omega)]; rfl) | (rw [if_neg (by omega), if_neg (by omega)]; rfl)) (zkeep (zset_same o2) (by omega)), (zSame.rf.set ⟨by omega, by omega⟩).set ⟨by omega, by omega⟩⟩)
theorem m_htake (hq : zNR ≤ q) (hb : zNR ≤ b) (hd : b + 16 ≤ q ∨ q + 146 ≤ b) (hc : 0 < c) (R : zHi q f c H h) (RC : zKo b C h) : zMet yX6_takeBack cX6_takeBack 2 none 3 0 0 [.ref q, .ref b] h (fun v h' => v = none ∧ zHi q f (c - 1) H h' ∧ zKo b (H ((f + (c - 1)) % 8)) h' ∧ zSame (fun a => a = q ∨ zIn b 16 a) h h') (fun _ _ => False) := by
  refine zMet.go (by decide +kernel) (Nat.le_of_ble_eq_true rfl) ?_
  intro X F B hnl hR hn
  obtain ⟨π, o1, o2, o3, o4, o5, o6⟩ := R
  obtain ⟨σ, τ, RC⟩ := RC
  have hp8 : (f + (c - 1)) % 8 < 8 := Nat.mod_lt _ (by decide)
  have hpp := o3.1 ((f + (c - 1)) % 8) (by omega)
  have ec : ((c : Int) - 1) = ((c - 1 : Nat) : Int) := by omega
  have s1 : zSame (fun a => a = q ∨ zIn b 16 a) h (h.set q (8, [.ref (q + 1), .ref (q + 2 + 16 * π 8), .int (iI f), .int (iI ((c - 1 : Nat) : Int))])) := zSame.rf.set (Or.inl rfl)
  have hS : ∀ j, j < 9 → zKo (q + 2 + 16 * π j) (H j) (h.set q (8, [.ref (q + 1), .ref (q + 2 + 16 * π 8), .int (iI f), .int (iI ((c - 1 : Nat) : Int))])) := fun j hj => (o4 j hj).same s1 (fun a g1 g2 g3 => by have := o3.1 j hj; rcases g3 with g3 | g3; omega; have := g3.1; have := g3.2; omega)
  obtain ⟨σ2, τ2, R2⟩ := hS ((f + (c - 1)) % 8) (by omega)
  have RC2 : zRepC b σ τ C (h.set q (8, [.ref (q + 1), .ref (q + 2 + 16 * π 8), .int (iI f), .int (iI ((c - 1 : Nat) : Int))])) := RC.same (S := fun a => a = q) (zSame.rf.set rfl) (fun a g1 g2 => by omega)
  refine z_aload_n F dX6_takeBack_0 rfl rfl ?_
  refine z_getfield F fl_X6_30 dX6_takeBack_1 o1 (by decide) rfl ?_
  refine zi_if_le (tgt := 38) F dX6_takeBack_4 (by decide) (by first | omega | (dsimp only at *; omega)) (fun c4 => False.elim (by first | omega | (dsimp only at *; omega))) (fun c4 => ?_)
  refine z_aload_n F dX6_takeBack_7 rfl rfl ?_
  refine z_dup F dX6_takeBack_8 rfl ?_
  refine z_getfield F fl_X6_30 dX6_takeBack_9 o1 (by decide) rfl ?_
  refine zi_iconst F dX6_takeBack_12 ?_
  refine zi_isub F dX6_takeBack_13 ?_
  rw [ec]
  refine z_putfield F fp_X6_30 dX6_takeBack_14 (zmut_of F (by omega)) o1 (by decide) (Nat.le_of_ble_eq_true rfl) ⟨rfl, rfl⟩ ?_
  refine z_aload_n F dX6_takeBack_17 rfl rfl ?_
  refine z_aload_n F dX6_takeBack_18 rfl rfl ?_
  refine z_getfield F fl_X6_11 dX6_takeBack_19 (zset_same o1) (by decide) rfl ?_
  refine z_aload_n F dX6_takeBack_22 rfl rfl ?_
  refine z_getfield F fl_X6_26 dX6_takeBack_23 (zset_same o1) (by decide) rfl ?_
  refine z_aload_n F dX6_takeBack_26 rfl rfl ?_
  refine z_getfield F fl_X6_30 dX6_takeBack_27 (zset_same o1) (by decide) rfl ?_
  refine zi_iadd F dX6_takeBack_30 ?_
  refine zi_bipush F dX6_takeBack_31 (by decide) ?_
  refine zi_irem F dX6_takeBack_33 (by omega) ?_
  refine zi_aaload (i := ((f + (c - 1)) % 8)) F dX6_takeBack_34 (zkeep o2 (by omega)) (by decide) (by decide) rfl (by omega) (by omega) (zar_get (by omega)) rfl ?_
  refine z_callV F B cal_yX2_copyFrom (m_ccopy (by omega) (by omega) (by omega) RC2 R2) dX6_takeBack_35 rfl rfl (Nat.le_of_ble_eq_true rfl) (by decide) (by decide) (by decide) ml_X6_22 im_yX2_copyFrom se_yX2_copyFrom RC2.ob (by decide) rfl rfl (fun v hX qX => ?_) (fun C h1 q => q.elim)
  obtain ⟨rfl, q1, q2⟩ := qX
  exact Z.widen (by decide) (by decide) (z_return F B dX6_takeBack_38 ⟨rfl, ⟨π, q2.get (zset_same o1) (fun g => by have := g.1; have := g.2; omega), q2.get (zkeep o2 (by omega)) (fun g => by have := g.1; have := g.2; omega), o3, fun j hj => (hS j hj).same q2 (fun a g1 g2 g3 => by have := o3.1 j hj; have := g3.1; have := g3.2; omega), o5, by omega⟩, ⟨_, _, q1⟩, s1.tr (q2.weak (fun a g => Or.inr g))⟩)
end
