/-! the claim's start as an abstract heap -/
section
variable {args : Array Value} {s : State}
theorem nCl (hts : ∀ w ∈ lw_tbl, w.before args s = true) (c : Nat) : ∃ x : ClassId × (Nat → Nat), ∀ q : vw_C, zCl[c]? = some q → u_Kn s q.1 q.2.1 q.2.2 x.1 x.2 := by
  have hz : ∀ w ∈ zT, w.before args s = true := fun w hw => hts w (List.mem_filter.mp hw).1
  have H : ∀ {C : String} {T : u_T} {N n : Nat}, (∀ w ∈ u_ws C T N, w ∈ zT) → Cond.instantiable C n ∈ lw_tbl → ∃ x : ClassId × (Nat → Nat), u_Kn s C T N x.1 x.2 := fun h1 h2 => by
    obtain ⟨cC, iS, h⟩ := u_known hz h1 (hts _ h2)
    exact ⟨(cC, iS), h⟩
  by_cases hc : c < 13
  · rcases (show c = 0 ∨ c = 1 ∨ c = 2 ∨ c = 3 ∨ c = 4 ∨ c = 5 ∨ c = 6 ∨ c = 7 ∨ c = 8 ∨ c = 9 ∨ c = 10 ∨ c = 11 ∨ c = 12 by omega) with rfl | rfl | rfl | rfl | rfl | rfl | rfl | rfl | rfl | rfl | rfl | rfl | rfl
    · obtain ⟨x, h⟩ := H zws_RJ0 (List.mem_of_getElem? (show lw_tbl[468]? = some (Cond.instantiable RJ0 4) by decide +kernel))
      exact ⟨x, fun q hq => by
        obtain rfl : ((RJ0, TJ0, 4) : vw_C) = q := Option.some.inj hq
        exact h⟩
    · obtain ⟨x, h⟩ := H zws_RJ4 (List.mem_of_getElem? (show lw_tbl[287]? = some (Cond.instantiable RJ4 4) by decide +kernel))
      exact ⟨x, fun q hq => by
        obtain rfl : ((RJ4, TJ4, 4) : vw_C) = q := Option.some.inj hq
        exact h⟩
    · obtain ⟨x, h⟩ := H zws_RJx00060 (List.mem_of_getElem? (show lw_tbl[394]? = some (Cond.instantiable RJx00060 6) by decide +kernel))
      exact ⟨x, fun q hq => by
        obtain rfl : ((RJx00060, TJx00060, 6) : vw_C) = q := Option.some.inj hq
        exact h⟩
    · obtain ⟨x, h⟩ := H zws_RJx7c733 (List.mem_of_getElem? (show lw_tbl[1289]? = some (Cond.instantiable RJx7c733 6) by decide +kernel))
      exact ⟨x, fun q hq => by
        obtain rfl : ((RJx7c733, TJx7c733, 6) : vw_C) = q := Option.some.inj hq
        exact h⟩
    · obtain ⟨x, h⟩ := H zws_RX1 (List.mem_of_getElem? (show lw_tbl[229]? = some (Cond.instantiable RX1 1) by decide +kernel))
      exact ⟨x, fun q hq => by
        obtain rfl : ((RX1, TX1, 1) : vw_C) = q := Option.some.inj hq
        exact h⟩
    · obtain ⟨x, h⟩ := H zws_RX2 (List.mem_of_getElem? (show lw_tbl[73]? = some (Cond.instantiable RX2 10) by decide +kernel))
      exact ⟨x, fun q hq => by
        obtain rfl : ((RX2, TX2, 10) : vw_C) = q := Option.some.inj hq
        exact h⟩
    · obtain ⟨x, h⟩ := H zws_RX3 (List.mem_of_getElem? (show lw_tbl[246]? = some (Cond.instantiable RX3 2) by decide +kernel))
      exact ⟨x, fun q hq => by
        obtain rfl : ((RX3, TX3, 2) : vw_C) = q := Option.some.inj hq
        exact h⟩
    · obtain ⟨x, h⟩ := H zws_RX5 (List.mem_of_getElem? (show lw_tbl[239]? = some (Cond.instantiable RX5 5) by decide +kernel))
      exact ⟨x, fun q hq => by
        obtain rfl : ((RX5, TX5, 5) : vw_C) = q := Option.some.inj hq
        exact h⟩
    · obtain ⟨x, h⟩ := H zws_RX6 (List.mem_of_getElem? (show lw_tbl[186]? = some (Cond.instantiable RX6 4) by decide +kernel))
      exact ⟨x, fun q hq => by
        obtain rfl : ((RX6, TX6, 4) : vw_C) = q := Option.some.inj hq
        exact h⟩
    · obtain ⟨x, h⟩ := H zws_RX7 (List.mem_of_getElem? (show lw_tbl[82]? = some (Cond.instantiable RX7 5) by decide +kernel))
      exact ⟨x, fun q hq => by
        obtain rfl : ((RX7, TX7, 5) : vw_C) = q := Option.some.inj hq
        exact h⟩
    · obtain ⟨x, h⟩ := H zws_RX8 (List.mem_of_getElem? (show lw_tbl[111]? = some (Cond.instantiable RX8 5) by decide +kernel))
      exact ⟨x, fun q hq => by
        obtain rfl : ((RX8, TX8, 5) : vw_C) = q := Option.some.inj hq
        exact h⟩
    · obtain ⟨x, h⟩ := H zws_RX9 (List.mem_of_getElem? (show lw_tbl[209]? = some (Cond.instantiable RX9 4) by decide +kernel))
      exact ⟨x, fun q hq => by
        obtain rfl : ((RX9, TX9, 4) : vw_C) = q := Option.some.inj hq
        exact h⟩
    · obtain ⟨x, h⟩ := H zws_RX10 (List.mem_of_getElem? (show lw_tbl[65]? = some (Cond.instantiable RX10 13) by decide +kernel))
      exact ⟨x, fun q hq => by
        obtain rfl : ((RX10, TX10, 13) : vw_C) = q := Option.some.inj hq
        exact h⟩
  · obtain ⟨x, -⟩ := H zws_RJ0 (List.mem_of_getElem? (show lw_tbl[468]? = some (Cond.instantiable RJ0 4) by decide +kernel))
    exact ⟨x, fun q hq => by
      rw [List.getElem?_eq_none (show 13 ≤ c by omega)] at hq
      cases hq⟩
theorem nAr (hts : ∀ w ∈ lw_tbl, w.before args s = true) (t : Nat) : ∃ c : ClassId, t < 9 → ArrOfT s c (zTy.getD t .int) ∧ va_RA s c (zTy.getD t .int) := by
  have P : ∀ ty : FieldType, Cond.arrayClass ty ∈ lw_tbl → ∃ c : ClassId, ArrOfT s c ty ∧ s.vm.findClass ("[" ++ ty.toString) = some c := fun ty h => by
    obtain ⟨c, k, comp, h1, h2, h3⟩ := Cond.arrayClass_spec (args := args) (first := s) (o := none) (s := s) (idx := []) (hts _ h)
    exact ⟨c, fun n z => ⟨(fun k q => by cases q), k, h2, comp, h3⟩, h1⟩
  have O : ∀ C : String, Cond.arrayOver (.object C) ∈ lw_tbl → ∃ c : ClassId, ArrOfT s c (.object C) ∧ va_RA s c (.object C) := fun C h => by
    obtain ⟨comp, c, k, h1, h2, h3, h4, h5⟩ := Cond.arrayOver_spec (args := args) (first := s) (o := none) (s := s) (idx := []) (hts _ h)
    exact ⟨c, fun n z => ⟨(fun k q => by cases q), k, h3, comp, h4⟩, k, comp, h3, h4, h1, h5⟩
  by_cases hc : t < 9
  · rcases (show t = 0 ∨ t = 1 ∨ t = 2 ∨ t = 3 ∨ t = 4 ∨ t = 5 ∨ t = 6 ∨ t = 7 ∨ t = 8 by omega) with rfl | rfl | rfl | rfl | rfl | rfl | rfl | rfl | rfl
    · obtain ⟨c, h1, h2⟩ := P .int (List.mem_of_getElem? (show lw_tbl[110]? = some (Cond.arrayClass .int) by decide +kernel))
      exact ⟨c, fun _ => ⟨h1, h2⟩⟩
    · obtain ⟨c, h1, h2⟩ := P .long (List.mem_of_getElem? (show lw_tbl[264]? = some (Cond.arrayClass .long) by decide +kernel))
      exact ⟨c, fun _ => ⟨h1, h2⟩⟩
    · obtain ⟨c, h1, h2⟩ := P .boolean (List.mem_of_getElem? (show lw_tbl[227]? = some (Cond.arrayClass .boolean) by decide +kernel))
      exact ⟨c, fun _ => ⟨h1, h2⟩⟩
    · obtain ⟨c, h1, h2⟩ := P .char (List.mem_of_getElem? (show lw_tbl[265]? = some (Cond.arrayClass .char) by decide +kernel))
      exact ⟨c, fun _ => ⟨h1, h2⟩⟩
    · obtain ⟨c, h1, h2⟩ := P .byte (List.mem_of_getElem? (show lw_tbl[318]? = some (Cond.arrayClass .byte) by decide +kernel))
      exact ⟨c, fun _ => ⟨h1, h2⟩⟩
    · obtain ⟨c, h1, h2⟩ := O "BeamChart$Light" (nA_ok _ (by decide))
      exact ⟨c, fun _ => ⟨h1, h2⟩⟩
    · obtain ⟨c, h1, h2⟩ := O "BeamChart$Ship" (nA_ok _ (by decide))
      exact ⟨c, fun _ => ⟨h1, h2⟩⟩
    · obtain ⟨c, h1, h2⟩ := O "BeamChart$Coast" (nA_ok _ (by decide))
      exact ⟨c, fun _ => ⟨h1, h2⟩⟩
    · obtain ⟨c, h1, h2⟩ := O "BeamChart$Command" (nA_ok _ (by decide))
      exact ⟨c, fun _ => ⟨h1, h2⟩⟩
  · obtain ⟨c, -⟩ := O "BeamChart$Light" (nA_ok _ (by decide))
    exact ⟨c, fun q => absurd q hc⟩
theorem nEn (hg : nW.before args s = true) (i : Nat) : ∃ a : Nat, i < 8 → (nE i).eval args s none [] s = some (.ref a) ∧ va_O RX4 a (nA s) s s.heap := by
  by_cases hi : i < 8
  · obtain ⟨a, c, cA, kA, q1, q2, q3, q4, q5, q6, -⟩ := Cond.exactly_spec (args := args) (first := s) (o := none) (s := s) (idx := []) (nG _ (nE_ok i hi).1 hg)
    exact ⟨a, fun _ => ⟨q1, cA, q3, q5, by rw [q6]; exact q2, nA_not a (Array.getElem?_eq_some_iff.mp q3).1⟩⟩
  · exact ⟨0, fun h => absurd h hi⟩
abbrev nS5 (C : String) (k : Nat) (l : List Nat) (args : Array Value) (s : State) (q : Nat × Nat) : Prop := (Term.string C k).eval args s none [] s = some (.ref q.1) ∧ va_O RJ0 q.1 (nA s) s s.heap ∧ va_OF RJ0 "coder" "B" (.int (iI 0)) q.1 (nA s) s s.heap ∧ va_OF RJ0 "value" "[B" (.ref q.2) q.1 (nA s) s s.heap ∧ va_T .byte q.2 l.length (fun j => .int (iI ((l.getD j 0 : Nat) : Int))) (nA s) s s.heap
theorem nPs (hg : nW.before args s = true) (i : Nat) : ∃ q : Nat × Nat, i < 8 → nS5 RX4 (nkP.getD i 0) (roPat.getD i []) args s q := by
  by_cases hi : i < 8
  · obtain ⟨q, h⟩ := nStr hg (nP_ok i hi) (roPat_lt i hi)
    exact ⟨q, fun _ => h⟩
  · exact ⟨(0, 0), fun h => absurd h hi⟩
theorem nTs (hg : nW.before args s = true) (i : Nat) : ∃ q : Nat × Nat, i < 24 → nS5 RL (337 + 2 * i) (roTxt.getD i []) args s q := by
  by_cases hi : i < 24
  · obtain ⟨q, h⟩ := nStr hg (nT_ok i hi) (roTxt_lt i hi)
    exact ⟨q, fun _ => h⟩
  · exact ⟨(0, 0), fun h => absurd h hi⟩
/-- a text of the standing cells -/
theorem nRoS {g : zG} {C : String} {k a v : Nat} {l : List Nat} {q : Nat × Nat} (h : nS5 C k l args s q) (hz : zA g = nA s) (e1 : g.2.1 a = q.1) (e2 : zq g v = q.2) : zRoAt g a (0, [.ref v, .int (iI 0)]) s s.heap := by
  obtain ⟨-, h1, h2, h3, -⟩ := h
  refine ⟨fun q => absurd (show 100 ≤ 0 from q) (by decide), fun _ => ⟨_, rfl, ?_, fun j w hj hw => ?_⟩⟩
  · rw [e1, hz]; exact h1
  · rw [e1, hz]
    rcases j with _ | _ | j
    · obtain rfl : Value.ref v = w := Option.some.inj hw
      show va_OF RJ0 "value" "[B" (.ref (zq g v)) _ _ _ _
      rw [e2]; exact h3
    · obtain rfl : Value.int (iI 0) = w := Option.some.inj hw
      exact h2
    · cases hw
theorem nRoB {g : zG} {C : String} {k a : Nat} {l : List Nat} {q : Nat × Nat} (h : nS5 C k l args s q) (hz : zA g = nA s) (e1 : g.2.1 a = q.2) : zRoAt g a (104, bys l) s s.heap := by
  obtain ⟨-, -, -, -, h5⟩ := h
  refine ⟨fun _ => ?_, fun q => absurd (show 104 < 90 from q) (by decide)⟩
  show va_T .byte (g.2.1 a) (bys l).length _ _ _ _
  rw [e1, hz, bys_len]
  refine va_Tcong h5 (fun j hj => ?_)
  show zv g ((bys l).getD j .null) = .int (iI ((l.getD j 0 : Nat) : Int))
  rw [List.getD_eq_getElem?_getD, bys_get hj]
  rfl
/-- an array of the standing cells -/
theorem nRoA {g : zG} {kd a t : Nat} {ty : FieldType} {n : Nat} {f f' : Nat → Value} (hk : ¬ kd < 90) (hty : zTy.getD (kd - 100) .int = ty) (h : va_T ty t n f' (nA s) s s.heap) (hz : zA g = nA s) (e1 : g.2.1 a = t) (hf : ∀ j, j < n → zv g (f j) = f' j) : zRoAt g a (kd, zar n f) s s.heap := by
  refine ⟨fun _ => ?_, fun q => absurd q hk⟩
  show va_T (zTy.getD (kd - 100) .int) (g.2.1 a) (zar n f).length _ _ _ _
  rw [e1, hz, zar_len, hty]
  refine va_Tcong h (fun j hj => ?_)
  show zv g ((zar n f).getD j .null) = f' j
  rw [List.getD_eq_getElem?_getD, zar_get hj]
  exact hf j hj
end
section
variable {tK tS t1 t2 tT b tF : Nat} {tE : Nat → Nat} {pA xA : Nat → Nat × Nat} {i : Nat}
theorem roA_E (hi : i < 8) : roA tK tE tS t1 t2 pA tT xA b tF (1 + i) = tE i := by unfold roA; rw [if_neg (by omega), if_pos (by omega), show 1 + i - 1 = i by omega]
theorem roA_P (hi : i < 8) : roA tK tE tS t1 t2 pA tT xA b tF (12 + i) = (pA i).1 := by unfold roA; rw [if_neg (by omega), if_neg (by omega), if_neg (by omega), if_neg (by omega), if_neg (by omega), if_pos (by omega), show 12 + i - 12 = i by omega]
theorem roA_Q (hi : i < 8) : roA tK tE tS t1 t2 pA tT xA b tF (20 + i) = (pA i).2 := by unfold roA; rw [if_neg (by omega), if_neg (by omega), if_neg (by omega), if_neg (by omega), if_neg (by omega), if_neg (by omega), if_pos (by omega), show 20 + i - 20 = i by omega]
theorem roA_X (hi : i < 24) : roA tK tE tS t1 t2 pA tT xA b tF (29 + i) = (xA i).1 := by unfold roA; rw [if_neg (by omega), if_neg (by omega), if_neg (by omega), if_neg (by omega), if_neg (by omega), if_neg (by omega), if_neg (by omega), if_neg (by omega), if_pos (by omega), show 29 + i - 29 = i by omega]
theorem roA_Y (hi : i < 24) : roA tK tE tS t1 t2 pA tT xA b tF (53 + i) = (xA i).2 := by unfold roA; rw [if_neg (by omega), if_neg (by omega), if_neg (by omega), if_neg (by omega), if_neg (by omega), if_neg (by omega), if_neg (by omega), if_neg (by omega), if_neg (by omega), if_pos (by omega), show 53 + i - 53 = i by omega]
end
theorem nE_nm : ∀ q ∈ zRf, ∃ i : Nat, i < 8 ∧ (q = ("java/lang/Enum", "ordinal", "I", .int (iI (i : Int)), 1 + i) ∨ q = (RX4, "pattern", "Ljava/lang/String;", .ref (12 + i), 1 + i)) := by
  intro q hq
  simp only [zRf, List.mem_cons, List.mem_nil_iff, or_false] at hq
  rcases hq with rfl | rfl | rfl | rfl | rfl | rfl | rfl | rfl | rfl | rfl | rfl | rfl | rfl | rfl | rfl | rfl
  · exact ⟨0, by decide, Or.inl rfl⟩
  · exact ⟨0, by decide, Or.inr rfl⟩
  · exact ⟨1, by decide, Or.inl rfl⟩
  · exact ⟨1, by decide, Or.inr rfl⟩
  · exact ⟨2, by decide, Or.inl rfl⟩
  · exact ⟨2, by decide, Or.inr rfl⟩
  · exact ⟨3, by decide, Or.inl rfl⟩
  · exact ⟨3, by decide, Or.inr rfl⟩
  · exact ⟨4, by decide, Or.inl rfl⟩
  · exact ⟨4, by decide, Or.inr rfl⟩
  · exact ⟨5, by decide, Or.inl rfl⟩
  · exact ⟨5, by decide, Or.inr rfl⟩
  · exact ⟨6, by decide, Or.inl rfl⟩
  · exact ⟨6, by decide, Or.inr rfl⟩
  · exact ⟨7, by decide, Or.inl rfl⟩
  · exact ⟨7, by decide, Or.inr rfl⟩
set_option maxHeartbeats 2000000 in
theorem start_g {s : State} {b : Nat} {xs : List Int32} (hts : ∀ w ∈ lw_tbl, w.before #[Value.ref b] s = true) (hg : nW.before #[Value.ref b] s = true) (hX : va_X b xs.length (fun j => xs.getD j 0) s s.heap) (hx : xs.length ≤ 260) : ∃ g : zG, g.1 = s.heap.size ∧ g.2.2.1 = roL xs ∧ g.2.1 77 = b ∧ va_K g.2.2.2.1 zCl (zTys g) s ∧ zRO g s s.heap ∧ zEx zStr zSt g s s.heap := by
  obtain ⟨D, hD⟩ := Classical.axiomOfChoice (nCl hts)
  obtain ⟨ac, hac⟩ := Classical.axiomOfChoice (nAr hts)
  obtain ⟨tE, hE⟩ := Classical.axiomOfChoice (nEn hg)
  obtain ⟨pA, hPA⟩ := Classical.axiomOfChoice (nPs hg)
  obtain ⟨xA, hXA⟩ := Classical.axiomOfChoice (nTs hg)
  obtain ⟨tK, eK, vK⟩ := va_Tof (N := 8) (f := fun j => .ref (tE j)) (A := nA s) (by decide) (nG _ nKi_ok.1 hg) (va_eqt (nG _ nKi_ok.2.1 hg)) (fun j hj => va_eqv (nG _ (nKi_ok.2.2 j hj) hg) (hE j hj).1) nA_not
  obtain ⟨tS, eS, vS⟩ := va_Tof (N := 8) (f := fun j => .int (iI (((j + 1) % 8 : Nat) : Int))) (A := nA s) (by decide) (nG _ nSw_ok.1 hg) (va_eqt (nG _ nSw_ok.2.1 hg)) (fun j hj => va_eqt (nG _ (nSw_ok.2.2 j hj) hg)) nA_not
  obtain ⟨t1, e1, v1⟩ := va_Tof (N := 100) (f := fun j => .int (iI ((48 + j % 10 : Nat) : Int))) (A := nA s) (by decide) (nG _ nD1_ok.1 hg) (va_eqt (nG _ nD1_ok.2.1 hg)) (fun j hj => va_eqt (nG _ (nD1_ok.2.2 j hj) hg)) nA_not
  obtain ⟨t2, e2, v2⟩ := va_Tof (N := 100) (f := fun j => .int (iI ((48 + j / 10 : Nat) : Int))) (A := nA s) (by decide) (nG _ nD2_ok.1 hg) (va_eqt (nG _ nD2_ok.2.1 hg)) (fun j hj => va_eqt (nG _ (nD2_ok.2.2 j hj) hg)) nA_not
  obtain ⟨tT, eT, vT⟩ := va_Tof (N := 24) (f := fun j => .ref (xA j).1) (A := nA s) (by decide) (nG _ nTx_ok.1 hg) (va_eqt (nG _ nTx_ok.2.1 hg)) (fun j hj => va_eqv (nG _ (nTx_ok.2.2 j hj) hg) (hXA j hj).1) nA_not
  obtain ⟨tF, eF⟩ : ∃ tF : Nat, (Term.static "jdk/internal/util/Preconditions" "SIOOBE_FORMATTER" "Ljava/util/function/BiFunction;").eval #[Value.ref b] s none [] s = some (.ref tF) ∨ (Term.static "jdk/internal/util/Preconditions" "SIOOBE_FORMATTER" "Ljava/util/function/BiFunction;").eval #[Value.ref b] s none [] s = some .null := by
    rcases nDe (nG _ nB_ok.2.2.2 hg) with h | ⟨a, h⟩
    · exact ⟨0, Or.inr h⟩
    · exact ⟨a, Or.inl h⟩
  have hAd : ∃ ad : Nat → Nat, ad = roA tK tE tS t1 t2 pA tT xA b tF := ⟨_, rfl⟩
  obtain ⟨ad, had⟩ := hAd
  have aE : ∀ i, i < 8 → ad (1 + i) = tE i := fun i hi => by rw [had]; exact roA_E hi
  have aP : ∀ i, i < 8 → ad (12 + i) = (pA i).1 := fun i hi => by rw [had]; exact roA_P hi
  have aQ : ∀ i, i < 8 → ad (20 + i) = (pA i).2 := fun i hi => by rw [had]; exact roA_Q hi
  have aX : ∀ i, i < 24 → ad (29 + i) = (xA i).1 := fun i hi => by rw [had]; exact roA_X hi
  have aY : ∀ i, i < 24 → ad (53 + i) = (xA i).2 := fun i hi => by rw [had]; exact roA_Y hi
  have a0 : ad 0 = tK := by rw [had]; rfl
  have a9 : ad 9 = tS := by rw [had]; rfl
  have a10 : ad 10 = t1 := by rw [had]; rfl
  have a11 : ad 11 = t2 := by rw [had]; rfl
  have a28 : ad 28 = tT := by rw [had]; rfl
  have a77 : ad 77 = b := by rw [had]; rfl
  have a98 : ad 98 = tF := by rw [had]; rfl
  clear had
  let g : zG := (s.heap.size, ad, roL xs, (fun c => (D c).1, fun c => (D c).2), ac)
  have hz : zA g = nA s := rfl
  have zql : ∀ a, a < 100 → zq g a = ad a := fun a ha => by
    show (if a < (roL xs).length then ad a else _) = _
    rw [if_pos (by rw [roL_len]; exact ha)]
  refine ⟨g, rfl, rfl, a77, ⟨fun c q hq => hD c q hq, fun k q hq => ?_⟩, fun a c hc => ?_, ?_⟩
  · by_cases hk : k < 9
    · have : (zTys g)[k]? = some (ac k, zTy.getD k .int) := zTys_get g hk
      rw [this] at hq
      obtain rfl := Option.some.inj hq
      exact hac k hk
    · rw [List.getElem?_eq_none (by show ((List.range 9).map _).length ≤ k; rw [List.length_map, List.length_range]; omega)] at hq
      cases hq
  · have ha : a < 100 := by rw [← roL_len xs]; exact (List.getElem?_eq_some_iff.mp hc).1
    have hc2 : (roL xs)[a]? = some c := hc
    rw [roL_at xs ha] at hc2
    obtain rfl := Option.some.inj hc2
    clear hc hc2
    unfold roC
    split
    · rename_i q; subst q
      exact nRoA (by decide) rfl vK hz a0 (fun j hj => by show Value.ref (zq g (1 + j)) = _; rw [zql _ (by omega), aE j hj])
    split
    · rename_i q; subst q
      exact nRoA (by decide) rfl vS hz a9 (fun j hj => rfl)
    split
    · rename_i q; subst q
      exact nRoA (by decide) rfl v1 hz a10 (fun j hj => rfl)
    split
    · rename_i q; subst q
      exact nRoA (by decide) rfl v2 hz a11 (fun j hj => rfl)
    split
    · rename_i q
      obtain ⟨i, rfl⟩ : ∃ i, a = 12 + i := ⟨a - 12, by omega⟩
      rw [show 12 + i - 12 = i by omega]
      exact nRoS (hPA i (by omega)) hz (aP i (by omega)) (by rw [zql _ (by omega)]; exact aQ i (by omega))
    split
    · rename_i q
      obtain ⟨i, rfl⟩ : ∃ i, a = 20 + i := ⟨a - 20, by omega⟩
      rw [show 20 + i - 20 = i by omega]
      exact nRoB (hPA i (by omega)) hz (aQ i (by omega))
    split
    · rename_i q; subst q
      exact nRoA (by decide) rfl vT hz a28 (fun j hj => by show Value.ref (zq g (29 + j)) = _; rw [zql _ (by omega), aX j hj])
    split
    · rename_i q
      obtain ⟨i, rfl⟩ : ∃ i, a = 29 + i := ⟨a - 29, by omega⟩
      rw [show 29 + i - 29 = i by omega]
      exact nRoS (hXA i (by omega)) hz (aX i (by omega)) (by rw [zql _ (by omega)]; exact aY i (by omega))
    split
    · rename_i q
      obtain ⟨i, rfl⟩ : ∃ i, a = 53 + i := ⟨a - 53, by omega⟩
      rw [show 53 + i - 53 = i by omega]
      exact nRoB (hXA i (by omega)) hz (aY i (by omega))
    split
    · rename_i q; subst q
      refine ⟨fun _ => ?_, fun q => absurd (show 100 < 90 from q) (by decide)⟩
      obtain ⟨scr, h1, h2, h3, h4, h5⟩ := hX
      show va_T .int (ad 77) (xs.map Value.int).length _ _ _ _
      rw [a77, List.length_map, hz]
      refine ⟨scr, h1, h2, h3, by rw [h4]; exact Nat.le_refl _, by rw [h4], fun j hj => ?_, nA_not b (Array.getElem?_eq_some_iff.mp h1).1⟩
      have x1 : xs.getD j 0 = xs[j] := by
        rw [List.getD_eq_getElem?_getD, List.getElem?_eq_getElem hj]
        rfl
      have x2 : (xs.map Value.int).getD j .null = .int xs[j] := by
        rw [List.getD_eq_getElem?_getD, List.getElem?_map, List.getElem?_eq_getElem hj]
        rfl
      show scr.slots[j]? = some (zv g ((xs.map Value.int).getD j .null))
      rw [h5 j hj]
      show some (Value.int (xs.getD j 0)) = _
      rw [x1, x2]
      rfl
    · exact ⟨fun q => absurd (show 100 ≤ 98 from q) (by decide), fun q => absurd (show 98 < 90 from q) (by decide)⟩
  · refine ⟨roL_len xs, fun C hC => va_AO.of (hts _ (nA_ok C hC)), fun q hq => ?_, fun q hq => ?_, vx_Zqof (hts _ (List.mem_of_getElem? (show lw_tbl[411]? = some (Cond.laysStatic "java/lang/Throwable" "UNASSIGNED_STACK" "[Ljava/lang/StackTraceElement;") by decide +kernel))) (hts _ (List.mem_of_getElem? (show lw_tbl[43]? = some (Cond.initialized "java/lang/Throwable") by decide +kernel))) (nG _ nB_ok.2.1 hg) nA_not, vx_Zqof (hts _ (List.mem_of_getElem? (show lw_tbl[413]? = some (Cond.laysStatic "java/lang/Throwable" "SUPPRESSED_SENTINEL" "Ljava/util/List;") by decide +kernel))) (hts _ (List.mem_of_getElem? (show lw_tbl[43]? = some (Cond.initialized "java/lang/Throwable") by decide +kernel))) (nG _ nB_ok.2.2.1 hg) nA_not, fun q hq => ?_, fun q hq => ?_, fun q hq => va_Nc.of (flat_of_before _ hg _ (nC_ok q hq))⟩
    · obtain ⟨a, c, cA, kA, q1, -⟩ := Cond.exactly_spec (args := #[Value.ref b]) (first := s) (o := none) (s := s) (idx := []) (flat_of_before _ hg _ (nS_ok q hq).1)
      exact ⟨a, vk_R.of (hts _ (nS_ok q hq).2) q1⟩
    · have hl := nZ_ok q hq
      have Zo : ∀ v : Value, (Term.static q.1 q.2.1 q.2.2.1).eval #[Value.ref b] s none [] s = some v → va_Z q.1 q.2.1 q.2.2.1 v (nA s) s s.heap := fun v h => va_Zof (hts _ hl.1) (hts _ hl.2) h nA_not
      simp only [zSt, List.mem_cons, List.mem_nil_iff, or_false] at hq
      rcases hq with rfl | rfl | rfl | rfl | rfl | rfl | rfl | rfl
      · exact Or.inl (by show va_Z _ _ _ (.ref (zq g (1 + 7))) _ _ _; rw [zql _ (by decide), aE 7 (by decide)]; exact Zo _ (hE 7 (by decide)).1)
      · exact Or.inl (Zo _ (va_eqt (nG _ nB_ok.1 hg)))
      · exact Or.inl (by show va_Z _ _ _ (.ref (zq g 0)) _ _ _; rw [zql _ (by decide), a0]; exact Zo _ eK)
      · exact Or.inl (by show va_Z _ _ _ (.ref (zq g 9)) _ _ _; rw [zql _ (by decide), a9]; exact Zo _ eS)
      · exact Or.inl (by show va_Z _ _ _ (.ref (zq g 10)) _ _ _; rw [zql _ (by decide), a10]; exact Zo _ e1)
      · exact Or.inl (by show va_Z _ _ _ (.ref (zq g 11)) _ _ _; rw [zql _ (by decide), a11]; exact Zo _ e2)
      · exact Or.inl (by show va_Z _ _ _ (.ref (zq g 28)) _ _ _; rw [zql _ (by decide), a28]; exact Zo _ eT)
      · rcases eF with h | h
        · exact Or.inl (by show va_Z _ _ _ (.ref (zq g 98)) _ _ _; rw [zql _ (by decide), a98]; exact Zo _ h)
        · exact Or.inr ⟨rfl, Zo _ h⟩
    · obtain ⟨i, hi, hq9⟩ := nE_nm q hq
      have hOE : zq g (1 + i) = tE i := (zql _ (by omega)).trans (aE i hi)
      rcases hq9 with rfl | rfl
      · show va_OF _ _ _ (.int (iI (i : Int))) (zq g (1 + i)) _ _ _
        rw [hOE]
        exact vk_OFof (hE i hi).1 (va_eqt (nG _ (nE_ok i hi).2.1 hg)) nA_not
      · show va_OF _ _ _ (.ref (zq g (12 + i))) (zq g (1 + i)) _ _ _
        rw [hOE, zql _ (by omega), aP i hi]
        exact vk_OFof (hE i hi).1 (va_eqv (nG _ (nE_ok i hi).2.2 hg) (hPA i hi).1) nA_not
    · have hm : ∃ i, i < 8 ∧ q = (RX4, 1 + i) := by
        simp only [zRoO, List.mem_cons, List.mem_nil_iff, or_false] at hq
        rcases hq with rfl | rfl | rfl | rfl | rfl | rfl | rfl | rfl
        · exact ⟨0, by decide, rfl⟩
        · exact ⟨1, by decide, rfl⟩
        · exact ⟨2, by decide, rfl⟩
        · exact ⟨3, by decide, rfl⟩
        · exact ⟨4, by decide, rfl⟩
        · exact ⟨5, by decide, rfl⟩
        · exact ⟨6, by decide, rfl⟩
        · exact ⟨7, by decide, rfl⟩
      obtain ⟨i, hi, rfl⟩ := hm
      show va_O RX4 (zq g (1 + i)) _ _ _
      rw [zql _ (by omega), aE i hi]
      exact (hE i hi).2
