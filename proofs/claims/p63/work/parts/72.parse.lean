/-! one command, and the whole text -/
def f_try (tx : List Nat) (p : Nat) : List (List Nat) → Nat → Nat → Option (Nat × List Nat) × Nat
  | [], _, f => (none, f)
  | pt :: pts, k, f => match f_match tx pt p [] with
    | (some l, q) => (some (k, l), q)
    | (none, q) => f_try tx p pts (k + 1) (max f q)
def f_prs (tx : List Nat) : Nat → Nat → List (Nat × List Nat) → Int × List (Nat × List Nat)
  | 0, p, cs => ((p : Int), cs)
  | n + 1, p, cs => match f_try tx p roPat 0 p with
    | (none, q) => ((q : Int), cs)
    | (some c, q) => if tx.length ≤ q then (-1, cs ++ [c]) else if tx.getD q 0 = 59 then f_prs tx n (q + 1) (cs ++ [c]) else ((q : Int), cs ++ [c])
theorem f_try_le (tx : List Nat) (p : Nat) (hp : p ≤ tx.length) : ∀ (pts : List (List Nat)) (k f : Nat), f ≤ tx.length → (f_try tx p pts k f).2 ≤ tx.length
  | [], k, f, h => h
  | pt :: pts, k, f, h => by
    have hm := f_match_le tx pt p [] hp
    unfold f_try
    split
    · rename_i l q e; rw [e] at hm; exact hm
    · rename_i q e; rw [e] at hm; exact f_try_le tx p hp pts _ _ (Nat.max_le.mpr ⟨h, hm⟩)
theorem f_try_lt (tx : List Nat) (p : Nat) : ∀ (pts : List (List Nat)) (k f : Nat) (q : Nat × List Nat), (f_try tx p pts k f).1 = some q → q.1 < k + pts.length
  | [], k, f, q, h => by cases h
  | pt :: pts, k, f, q, h => by
    unfold f_try at h
    rw [List.length_cons]
    split at h
    · have h : some (k, _) = some q := h
      cases h
      show k < _
      omega
    · have := f_try_lt tx p pts _ _ q h
      omega
theorem roPat_len : roPat.length = 8 := rfl
theorem roPat_cnt : ∀ k, k < 8 → cntd (roPat.getD k []) ≤ 4 := by decide +kernel
theorem roPat_128 : ∀ k, k < 8 → ∀ i, i < (roPat.getD k []).length → (roPat.getD k []).getD i 0 < 128 := by decide +kernel
theorem roPat_drop {k : Nat} (h : k < 8) : roPat.drop k = roPat.getD k [] :: roPat.drop (k + 1) := by
  have h : k < roPat.length := h
  rw [List.drop_eq_getElem_cons h, List.getD_eq_getElem?_getD, List.getElem?_eq_getElem h]
  rfl
theorem zRs.pat {h : zH} (B : zRs h) {k : Nat} (hk : k < 8) : zSr (12 + k) (roPat.getD k []) h := ⟨by unfold zNR; omega, 20 + k, by unfold zNR; omega, (B.2.2.2.2.1 k hk).1, (B.2.2.2.2.1 k hk).2, roPat_128 k hk, by have := (show ∀ k, k < 8 → (roPat.getD k []).length < 100 by decide +kernel) k hk; omega⟩
/-- the commands that were found -/
def zKm (Kc : Nat → Nat × (Nat → Nat)) (cs : List (Nat × List Nat)) : Prop := ∀ i, i < cs.length → (Kc i).1 = (cs.getD i (0, [])).1 ∧ ∀ j, j < (cs.getD i (0, [])).2.length → (Kc i).2 j = (cs.getD i (0, [])).2.getD j 0
theorem zup_zup {α : Type} (f : Nat → α) (i : Nat) (a b : α) : zup (zup f i a) i b = zup f i b := by
  funext j
  unfold zup
  split <;> rfl
/-- the kind of command c is written -/
theorem zTx.kind {t len cn ps c k : Nat} {T : Nat → Nat} {Kc : Nat → Nat × (Nat → Nat)} {h : zH} {x : Nat × (Nat → Nat)} (R : zTx t T len cn ps (zup Kc c x) h) (hc : c < 10) (hk : k < 8) : zTx t T len cn ps (zup Kc c (k, x.2)) (h.set (t + 3 + 2 * c) (6, [.ref (1 + k), .ref (t + 4 + 2 * c)])) := by
  refine ⟨zkeep R.1 (by omega), zkeep R.2.1 (by omega), zkeep R.2.2.1 (by omega), fun i hi => ?_⟩
  have Ri := R.2.2.2 i hi
  by_cases e : i = c
  · subst e
    rw [zup_s] at Ri ⊢
    exact ⟨zset_same Ri.1, zkeep Ri.2.1 (by omega), hk⟩
  · rw [zup_n e] at Ri ⊢
    exact ⟨zkeep Ri.1 (by omega), zkeep Ri.2.1 (by omega), Ri.2.2⟩
section
variable {t cn ps : Nat} {T : Nat → Nat} {tx : List Nat} {Kc : Nat → Nat × (Nat → Nat)} {h : zH}
theorem m_parseCommand {c : Nat} (hz : zNR ≤ t) (hc : c < 10) (Bs : zRs h) (R : zTx t T tx.length cn ps Kc h) (I : zIs T tx) (hps : ps ≤ tx.length) {r : Option (Nat × List Nat) × Nat} (hr : f_try tx ps roPat 0 ps = r) : zMet yX5_parseCommand cX5_parseCommand 5 (some .boolean) 6 0 0 [.ref t, .ref (t + 3 + 2 * c)] h (fun v h' => v = some (.int (iI (zBo r.1.isSome))) ∧ (∃ x, zTx t T tx.length cn r.2 (zup Kc c x) h' ∧ ∀ q, r.1 = some q → x.1 = q.1 ∧ ∀ j, j < q.2.length → x.2 j = q.2.getD j 0) ∧ zSame (zIn t 23) h h') (fun _ _ => False) := by
  refine zMet.go (by decide +kernel) (Nat.le_of_ble_eq_true rfl) ?_
  intro X F B hnl hR hn
  have I1 := I.1
  have hBs : ∀ h1, zSame (zIn t 23) h h1 → zRs h1 := fun h1 q => Bs.same q (fun a ha g => by have := g.1; omega)
  suffices KK : ∀ (n k f p : Nat) (Vs : Nat → Nat) (h1 : zH), n + k = 8 → p ≤ tx.length → f ≤ tx.length → f_try tx ps (roPat.drop k) k f = r → zTx t T tx.length cn p (zup Kc c ((Kc c).1, Vs)) h1 → zSame (zIn t 23) h h1 → Z X 0 0 10 [(4, .int (iI (k : Int))), (3, .int (iI (f : Int))), (2, .int (iI (ps : Int))), (0, .ref t), (1, .ref (t + 3 + 2 * c))] [] h1 by
    refine z_aload_n F dX5_parseCommand_0 rfl rfl ?_
    refine z_getfield F fl_X5_22 dX5_parseCommand_1 R.1 (by decide) rfl ?_
    refine z_istore_n F dX5_parseCommand_4 rfl rfl (hnl _ rfl) ?_
    refine z_iload_n F dX5_parseCommand_5 rfl rfl ?_
    refine z_istore_n F dX5_parseCommand_6 rfl rfl (hnl _ rfl) ?_
    refine zi_iconst F dX5_parseCommand_7 ?_
    refine z_istore F dX5_parseCommand_8 rfl (hnl _ rfl) ?_
    exact Z.keys [4, 3, 2, 0, 1] rfl (KK 8 0 ps ps (Kc c).2 h rfl hps hps hr (by rw [show ((Kc c).1, (Kc c).2) = Kc c from rfl, zup_self]; exact R) zSame.rf)
  intro n
  induction n with
  | zero =>
    intro k f p Vs h1 hk hp hf hm R1 s1
    have B1 := hBs h1 s1
    have hk8 : k = 8 := by omega
    subst hk8
    have hm : (none, f) = r := hm
    refine z_iload F dX5_parseCommand_10 rfl ?_
    refine z_getstaticN F gs_X5_36 dX5_parseCommand_12 ?_
    refine zi_alen F dX5_parseCommand_15 B1.1 (by decide) (by decide) (zar_len _ _) ?_
    refine zi_icmp_ge (tgt := 71) F dX5_parseCommand_16 (by decide) (by first | omega | (dsimp only at *; omega)) (fun c16 => ?_) (fun c16 => False.elim (by first | omega | (dsimp only at *; omega)))
    refine z_aload_n F dX5_parseCommand_71 rfl rfl ?_
    refine z_iload_n F dX5_parseCommand_72 rfl rfl ?_
    refine z_putfield F fp_X5_22 dX5_parseCommand_73 (zmut_of F (by omega)) R1.1 (by decide) (Nat.le_of_ble_eq_true rfl) ⟨rfl, rfl⟩ ?_
    refine zi_iconst F dX5_parseCommand_76 ?_
    exact Z.widen (by decide) (by decide) (z_ireturn F rfl B dX5_parseCommand_77 ⟨by rw [← hm]; rfl, ⟨_, by rw [← hm]; exact R1.obj tx.length cn f, by rw [← hm]; intro q hq; cases hq⟩, s1.set ⟨by omega, by omega⟩⟩)
  | succ n ih =>
    intro k f p Vs h1 hk hp hf hm R1 s1
    have B1 := hBs h1 s1
    have hk8 : k < 8 := by omega
    rw [roPat_drop hk8] at hm
    unfold f_try at hm
    have hml := f_match_le tx (roPat.getD k []) ps [] hps
    refine z_iload F dX5_parseCommand_10 rfl ?_
    refine z_getstaticN F gs_X5_36 dX5_parseCommand_12 ?_
    refine zi_alen F dX5_parseCommand_15 B1.1 (by decide) (by decide) (zar_len _ _) ?_
    refine zi_icmp_ge (tgt := 71) F dX5_parseCommand_16 (by decide) (by first | omega | (dsimp only at *; omega)) (fun c16 => False.elim (by first | omega | (dsimp only at *; omega))) (fun c16 => ?_)
    refine z_aload_n F dX5_parseCommand_19 rfl rfl ?_
    refine z_iload_n F dX5_parseCommand_20 rfl rfl ?_
    refine z_putfield F fp_X5_22 dX5_parseCommand_21 (zmut_of F (by omega)) R1.1 (by decide) (Nat.le_of_ble_eq_true rfl) ⟨rfl, rfl⟩ ?_
    have R2 := R1.obj tx.length cn ps
    have s2 : zSame (zIn t 23) h _ := s1.set (c := (7, [.ref (t + 1), .ref (t + 2), .int (iI (tx.length : Int)), .int (iI (cn : Int)), .int (iI (ps : Int))])) (⟨Nat.le_refl _, by omega⟩ : zIn t 23 t)
    refine zgen (P := fun h' => zTx t T tx.length cn ps (zup Kc c ((Kc c).1, Vs)) h' ∧ zSame (zIn t 23) h h') ⟨R2, s2⟩ (fun h2 q2 => ?_)
    clear R2 s2
    obtain ⟨R2, s2⟩ := q2
    have B2 := hBs h2 s2
    have e6 := (R2.2.2.2 c hc).1
    refine z_aload_n F dX5_parseCommand_24 rfl rfl ?_
    refine z_getstaticN F gs_X5_36 dX5_parseCommand_25 ?_
    refine z_iload F dX5_parseCommand_28 rfl ?_
    refine zi_aaload (i := k) F dX5_parseCommand_30 B2.1 (by decide) (by decide) rfl rfl (by omega) (zar_get (by omega)) rfl ?_
    refine z_getfieldR F (gr_pat k hk8) dX5_parseCommand_31 ?_
    refine z_aload_n F dX5_parseCommand_34 rfl rfl ?_
    refine z_getfield F fl_X5_46 dX5_parseCommand_35 e6 (by decide) rfl ?_
    refine z_callV F B cal_yX5_matches (m_matches hz hc (B2.pat hk8) (roPat_cnt k hk8) R2 I hps rfl) dX5_parseCommand_38 rfl rfl (Nat.le_of_ble_eq_true rfl) (by decide) (by decide) (by decide) ml_X5_50 im_yX5_matches se_yX5_matches R2.1 (by decide) rfl rfl (fun v hX qX => ?_) (fun C h1 q => q.elim)
    obtain ⟨rfl, ⟨Vs2, R3, hV⟩, s3⟩ := qX
    have s3 := s2.tr s3
    rw [zup_s, zup_zup] at R3
    have B3 := hBs _ s3
    rcases hmm : f_match tx (roPat.getD k []) ps [] with ⟨_ | l, q⟩
    · rw [hmm] at hm R3 hml
      have hm : f_try tx ps (roPat.drop (k + 1)) (k + 1) (max f q) = r := hm
      have hml : q ≤ tx.length := hml
      have R3 : zTx t T tx.length cn q (zup Kc c ((Kc c).1, Vs2)) _ := R3
      rw [show zBo ((none : Option (List Nat)), q).1.isSome = 0 from rfl]
      refine zi_if_eq (tgt := 56) F dX5_parseCommand_41 (by decide) (by first | omega | (dsimp only at *; omega)) (fun c41 => ?_) (fun c41 => False.elim (by first | omega | (dsimp only at *; omega)))
      refine z_iload_n F dX5_parseCommand_56 rfl rfl ?_
      refine z_aload_n F dX5_parseCommand_57 rfl rfl ?_
      refine z_getfield F fl_X5_22 dX5_parseCommand_58 R3.1 (by decide) rfl ?_
      refine zi_max F dX5_parseCommand_61 ml_X5_58 st_yJ9_max_7cf53 cal_yJ9_max_7cf53.2.1 cal_yJ9_max_7cf53.1 hR (by decide) (by decide) (by decide) (Nat.le_of_ble_eq_true rfl) (by omega) ?_
      rw [show (if (f : Int) < (q : Int) then (q : Int) else (f : Int)) = ((max f q : Nat) : Int) by split <;> omega]
      refine z_istore_n F dX5_parseCommand_64 rfl rfl (hnl _ rfl) ?_
      refine zi_iinc F dX5_parseCommand_65 rfl rfl (hnl _ rfl) ?_
      refine z_goto (tgt := 10) F dX5_parseCommand_68 (by decide) ?_
      exact Z.keys [4, 3, 2, 0, 1] rfl (ih (k + 1) (max f q) q Vs2 _ (by omega) hml (Nat.max_le.mpr ⟨hf, hml⟩) hm R3 s3)
    · rw [hmm] at hm R3 hV
      have hm : (some (k, l), q) = r := hm
      have R3 : zTx t T tx.length cn q (zup Kc c ((Kc c).1, Vs2)) _ := R3
      have hV := hV l rfl
      rw [show zBo (some l, q).1.isSome = 1 from rfl]
      have e7 := (R3.2.2.2 c hc).1
      refine zi_if_eq (tgt := 56) F dX5_parseCommand_41 (by decide) (by first | omega | (dsimp only at *; omega)) (fun c41 => False.elim (by first | omega | (dsimp only at *; omega))) (fun c41 => ?_)
      refine z_aload_n F dX5_parseCommand_44 rfl rfl ?_
      refine z_getstaticN F gs_X5_36 dX5_parseCommand_45 ?_
      refine z_iload F dX5_parseCommand_48 rfl ?_
      refine zi_aaload (i := k) F dX5_parseCommand_50 B3.1 (by decide) (by decide) rfl rfl (by omega) (zar_get (by omega)) rfl ?_
      refine z_putfield F fp_X5_54 dX5_parseCommand_51 (zmut_of F (by omega)) e7 (by decide) (Nat.le_of_ble_eq_true rfl) ⟨rfl, rfl⟩ ?_
      refine zi_iconst F dX5_parseCommand_54 ?_
      exact Z.widen (by decide) (by decide) (z_ireturn F rfl B dX5_parseCommand_55 ⟨by rw [← hm]; rfl, ⟨(k, Vs2), by rw [← hm]; exact R3.kind hc hk8, by rw [← hm]; intro q hq; have hq : some (k, l) = some q := hq; cases hq; exact ⟨rfl, hV⟩⟩, s3.set ⟨by omega, by omega⟩⟩)
theorem m_parse (hz : zNR ≤ t) (Bs : zRs h) (R : zTx t T tx.length cn ps Kc h) (I : zIs T tx) {r : Int × List (Nat × List Nat)} (hr : f_prs tx 10 0 [] = r) : zMet yX5_parse cX5_parse 1 (some .int) 7 0 0 [.ref t] h (fun v h' => v = some (.int (iI r.1)) ∧ (∃ ps' Kc', zTx t T tx.length r.2.length ps' Kc' h' ∧ zKm Kc' r.2) ∧ zSame (zIn t 23) h h') (fun _ _ => False) := by
  refine zMet.go (by decide +kernel) (Nat.le_of_ble_eq_true rfl) ?_
  intro X F B hnl hR hn
  have I1 := I.1
  have hBs : ∀ h1, zSame (zIn t 23) h h1 → zRs h1 := fun h1 q => Bs.same q (fun a ha g => by have := g.1; omega)
  suffices KK : ∀ (n p : Nat) (cs : List (Nat × List Nat)) (Kc1 : Nat → Nat × (Nat → Nat)) (h1 : zH), n + cs.length = 10 → p ≤ tx.length → zKm Kc1 cs → f_prs tx n p cs = r → zTx t T tx.length cs.length p Kc1 h1 → zSame (zIn t 23) h h1 → Z X 0 0 10 [(0, .ref t)] [] h1 by
    refine z_aload_n F dX5_parse_0 rfl rfl ?_
    refine zi_iconst F dX5_parse_1 ?_
    refine z_putfield F fp_X5_22 dX5_parse_2 (zmut_of F (by omega)) R.1 (by decide) (Nat.le_of_ble_eq_true rfl) ⟨rfl, rfl⟩ ?_
    refine z_aload_n F dX5_parse_5 rfl rfl ?_
    refine zi_iconst F dX5_parse_6 ?_
    refine zi_putS F fp_X5_26 dX5_parse_7 (zmut_of F (by omega)) R.1 (by decide) (Nat.le_of_ble_eq_true rfl) ⟨rfl, rfl⟩ ?_
    exact KK 10 0 [] Kc _ rfl (Nat.zero_le _) (fun i hi => absurd hi (by simp)) hr (R.obj tx.length 0 0) (zSame.rf.set ⟨by omega, by omega⟩)
  have hend : ∀ (p : Nat) (cs : List (Nat × List Nat)) (Kc1 : Nat → Nat × (Nat → Nat)) (h1 : zH), zKm Kc1 cs → ((p : Int), cs) = r → zTx t T tx.length cs.length p Kc1 h1 → zSame (zIn t 23) h h1 → Z X 0 0 88 [(0, .ref t)] [] h1 := by
    intro p cs Kc1 h1 hK hm R1 s1
    refine z_aload_n F dX5_parse_88 rfl rfl ?_
    refine z_getfield F fl_X5_22 dX5_parse_89 R1.1 (by decide) rfl ?_
    exact Z.widen (by decide) (by decide) (z_ireturn F rfl B dX5_parse_92 ⟨by rw [← hm], ⟨p, Kc1, by rw [← hm]; exact R1, by rw [← hm]; exact hK⟩, s1⟩)
  intro n
  induction n with
  | zero =>
    intro p cs Kc1 h1 hn hp hK hm R1 s1
    have hm : ((p : Int), cs) = r := hm
    refine z_aload_n F dX5_parse_10 rfl rfl ?_
    refine z_getfield F fl_X5_26 dX5_parse_11 R1.1 (by decide) rfl ?_
    refine zi_bipush F dX5_parse_14 (by decide) ?_
    refine zi_icmp_ge (tgt := 88) F dX5_parse_16 (by decide) (by first | omega | (dsimp only at *; omega)) (fun c16 => ?_) (fun c16 => False.elim (by first | omega | (dsimp only at *; omega)))
    exact hend p cs Kc1 _ hK hm R1 s1
  | succ n ih =>
    intro p cs Kc1 h1 hn hp hK hm R1 s1
    have B1 := hBs h1 s1
    have hc10 : cs.length < 10 := by omega
    unfold f_prs at hm
    have hq := f_try_le tx p hp roPat 0 p hp
    have hlt := f_try_lt tx p roPat 0 p
    refine z_aload_n F dX5_parse_10 rfl rfl ?_
    refine z_getfield F fl_X5_26 dX5_parse_11 R1.1 (by decide) rfl ?_
    refine zi_bipush F dX5_parse_14 (by decide) ?_
    refine zi_icmp_ge (tgt := 88) F dX5_parse_16 (by decide) (by first | omega | (dsimp only at *; omega)) (fun c16 => False.elim (by first | omega | (dsimp only at *; omega))) (fun c16 => ?_)
    refine z_aload_n F dX5_parse_19 rfl rfl ?_
    refine z_aload_n F dX5_parse_20 rfl rfl ?_
    refine z_getfield F fl_X5_17 dX5_parse_21 R1.1 (by decide) rfl ?_
    refine z_aload_n F dX5_parse_24 rfl rfl ?_
    refine z_getfield F fl_X5_26 dX5_parse_25 R1.1 (by decide) rfl ?_
    refine zi_aaload (i := cs.length) F dX5_parse_28 R1.2.2.1 (by decide) (by decide) rfl rfl (by omega) (zar_get (by omega)) rfl ?_
    refine z_callV F B cal_yX5_parseCommand (m_parseCommand hz hc10 B1 R1 I hp rfl) dX5_parse_29 rfl rfl (Nat.le_of_ble_eq_true rfl) (by decide) (by decide) (by decide) ml_X5_29 im_yX5_parseCommand se_yX5_parseCommand R1.1 (by decide) rfl rfl (fun v hX qX => ?_) (fun C h1 q => q.elim)
    obtain ⟨rfl, ⟨x, R2, hx⟩, s2⟩ := qX
    have s2 := s1.tr s2
    rcases hmm : f_try tx p roPat 0 p with ⟨_ | c, q⟩
    · rw [hmm] at hm R2 hq
      have hm : ((q : Int), cs) = r := hm
      have R2 : zTx t T tx.length cs.length q (zup Kc1 cs.length x) _ := R2
      rw [show zBo ((none : Option (Nat × List Nat)), q).1.isSome = 0 from rfl]
      refine zi_if_eq (tgt := 88) F dX5_parse_32 (by decide) (by first | omega | (dsimp only at *; omega)) (fun c32 => ?_) (fun c32 => False.elim (by first | omega | (dsimp only at *; omega)))
      exact hend q cs _ _ (fun i hi => by rw [zup_n (by omega)]; exact hK i hi) hm R2 s2
    · rw [hmm] at hm R2 hq hx
      have hm : (if tx.length ≤ q then (-1, cs ++ [c]) else if tx.getD q 0 = 59 then f_prs tx n (q + 1) (cs ++ [c]) else ((q : Int), cs ++ [c])) = r := hm
      have hq : q ≤ tx.length := hq
      have hx := hx c rfl
      have R2 : zTx t T tx.length cs.length q (zup Kc1 cs.length x) _ := R2
      rw [show zBo (some c, q).1.isSome = 1 from rfl]
      have el : (cs ++ [c]).length = cs.length + 1 := List.length_append
      have hK2 : zKm (zup Kc1 cs.length x) (cs ++ [c]) := by
        intro i hi
        rw [el] at hi
        by_cases e : i = cs.length
        · subst e
          rw [zup_s, show (cs ++ [c]).getD cs.length (0, []) = c by rw [List.getD_eq_getElem?_getD, List.getElem?_append_right (Nat.le_refl _), Nat.sub_self]; rfl]
          exact hx
        · rw [zup_n e, show (cs ++ [c]).getD i (0, []) = cs.getD i (0, []) by rw [List.getD_eq_getElem?_getD, List.getD_eq_getElem?_getD, List.getElem?_append_left (by omega)]]
          exact hK i (by omega)
      refine zi_if_eq (tgt := 88) F dX5_parse_32 (by decide) (by first | omega | (dsimp only at *; omega)) (fun c32 => False.elim (by first | omega | (dsimp only at *; omega))) (fun c32 => ?_)
      refine z_aload_n F dX5_parse_35 rfl rfl ?_
      refine z_dup F dX5_parse_36 rfl ?_
      refine z_getfield F fl_X5_26 dX5_parse_37 R2.1 (by decide) rfl ?_
      refine zi_iconst F dX5_parse_40 ?_
      refine zi_iadd F dX5_parse_41 ?_
      refine z_putfield F fp_X5_26 dX5_parse_42 (zmut_of F (by omega)) R2.1 (by decide) (Nat.le_of_ble_eq_true rfl) ⟨rfl, rfl⟩ ?_
      have R3 := R2.obj tx.length (cs.length + 1) q
      have s3 : zSame (zIn t 23) h _ := s2.set (c := (7, [.ref (t + 1), .ref (t + 2), .int (iI (tx.length : Int)), .int (iI ((cs.length + 1 : Nat) : Int)), .int (iI (q : Int))])) (⟨Nat.le_refl _, by omega⟩ : zIn t 23 t)
      refine zgen (P := fun h' => zTx t T tx.length (cs ++ [c]).length q (zup Kc1 cs.length x) h' ∧ zSame (zIn t 23) h h') ⟨by rw [el]; exact R3, s3⟩ (fun h4 q4 => ?_)
      clear R3 s3
      obtain ⟨R4, s4⟩ := q4
      refine z_aload_n F dX5_parse_45 rfl rfl ?_
      refine z_getfield F fl_X5_22 dX5_parse_46 R4.1 (by decide) rfl ?_
      refine z_aload_n F dX5_parse_49 rfl rfl ?_
      refine z_getfield F fl_X5_33 dX5_parse_50 R4.1 (by decide) rfl ?_
      refine zi_icmp_lt (tgt := 58) F dX5_parse_53 (by decide) (by first | omega | (dsimp only at *; omega)) (fun c53 => ?_) (fun c53 => ?_)
      · rw [if_neg (by omega)] at hm
        have I3 := I.2 q (by omega)
        refine z_aload_n F dX5_parse_58 rfl rfl ?_
        refine z_getfield F fl_X5_9 dX5_parse_59 R4.1 (by decide) rfl ?_
        refine z_aload_n F dX5_parse_62 rfl rfl ?_
        refine z_getfield F fl_X5_22 dX5_parse_63 R4.1 (by decide) rfl ?_
        refine zi_caload (i := q) F dX5_parse_66 R4.2.1 rfl (by omega) (zar_get (by omega)) ?_
        rw [I3.1]
        refine zi_bipush F dX5_parse_67 (by decide) ?_
        refine zi_icmp_eq (tgt := 75) F dX5_parse_69 (by decide) (by first | omega | (dsimp only at *; omega)) (fun c69 => ?_) (fun c69 => ?_)
        · rw [if_pos (by omega)] at hm
          refine z_aload_n F dX5_parse_75 rfl rfl ?_
          refine z_dup F dX5_parse_76 rfl ?_
          refine z_getfield F fl_X5_22 dX5_parse_77 R4.1 (by decide) rfl ?_
          refine zi_iconst F dX5_parse_80 ?_
          refine zi_iadd F dX5_parse_81 ?_
          refine z_putfield F fp_X5_22 dX5_parse_82 (zmut_of F (by omega)) R4.1 (by decide) (Nat.le_of_ble_eq_true rfl) ⟨rfl, rfl⟩ ?_
          refine z_goto (tgt := 10) F dX5_parse_85 (by decide) ?_
          exact ih (q + 1) (cs ++ [c]) _ _ (by rw [el]; omega) (by omega) hK2 hm (R4.obj tx.length (cs ++ [c]).length (q + 1)) (s4.set ⟨by omega, by omega⟩)
        · rw [if_neg (by omega)] at hm
          refine z_goto (tgt := 88) F dX5_parse_72 (by decide) ?_
          exact hend q _ _ _ hK2 hm R4 s4
      · rw [if_pos (by omega)] at hm
        refine zi_iconst F dX5_parse_56 ?_
        exact Z.widen (by decide) (by decide) (z_ireturn F rfl B dX5_parse_57 ⟨by rw [← hm], ⟨q, _, by rw [← hm]; exact R4, by rw [← hm]; exact hK2⟩, s4⟩)
end
