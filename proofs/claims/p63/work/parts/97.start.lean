/-! the claim's start: its words, the cells that stand, the world -/
section
variable {args : Array Value} {s : State}
/-- a private method that a class inherits is the one that is called -/
theorem k9_inh {y y2 x2 : MethodName} {C : String} (hy : y.cls ≠ "java/lang/invoke/MethodHandle" ∧ y.cls ≠ "java/lang/invoke/VarHandle") (hc : y2.cls = y.cls) (hsel : (Cond.selects C x2 y2).before args s = true) (hpriv : (Cond.privateMethod y).before args s = true) (hinst : (Cond.instanceMethod y).before args s = true) : (Cond.selects C y y).before args s = true := by
  obtain ⟨c, r, m2, hc1, -, hn2, -, mk', hk', hni⟩ := Cond.selects_spec (args := args) (first := s) (o := none) (s := s) (idx := []) hsel
  obtain ⟨mk, methM, hnamed, hmethM, -, -⟩ := Cond.instanceMethod_spec hinst
  have hfound : s.methodFound? y.cls y.name y.desc = some mk := State.methodFound?_of_named hnamed hy
  have hcls : mk.cls = m2.cls := Option.some.inj ((findClass_of_methodNamed hnamed).symm.trans (by rw [← hc]; exact findClass_of_methodNamed hn2))
  have hsel9 : selectMethod {} s.vm c mk = .method mk := selectMethod_private hmethM (Cond.privateMethod_at hpriv mk methM hnamed hmethM)
  simp only [Cond.before, Cond.holds, Cond.value, hc1, hfound, hnamed, hsel9, hcls, hk']
  simp; exact hni
theorem lw_hts9 (hts : ∀ w ∈ tables_1, w.before args s = true) : ∀ w ∈ lw_tbl, w.before args s = true := by
  have h0 : ∀ w ∈ lw_tb0, w.before args s = true := k2_hts_sels lw_privs hts lw_privs_ok
  intro w hw
  rcases List.mem_append.mp hw with h | h
  · exact h0 w h
  · rw [List.mem_singleton.mp h]
    exact k9_inh (y := lw_ens) (y2 := yJ5_isLatin1_aae02) (x2 := yJ5_isLatin1_aae02) ⟨by decide, by decide⟩ rfl (h0 _ (List.mem_of_getElem? (show lw_tb0[1339]? = some (Cond.selects "java/lang/StringBuilder" yJ5_isLatin1_aae02 yJ5_isLatin1_aae02) by decide +kernel))) (h0 _ (List.mem_of_getElem? (show lw_tb0[1308]? = some (Cond.privateMethod lw_ens) by decide +kernel))) (h0 _ (List.mem_of_getElem? (show lw_tb0[1309]? = some (Cond.instanceMethod lw_ens) by decide +kernel)))
abbrev nW : Cond := Cond.and given_1 narrow_1
abbrev nL : List Cond := flatC nW
theorem nG {w : Cond} (i : Nat) (h : nL[i]? = some w) (hg : nW.before args s = true) : w.before args s = true := flat_of_before _ hg w (List.mem_of_getElem? h)
/-- the parts of a text that stands: class, bytes -/
abbrev nSok (C : String) (k b : Nat) (l : List Nat) : Prop := nL[b]? = some (Cond.exactly (.string C k) "java/lang/String") ∧ nL[b + 1]? = some (Cond.eq (.field (.string C k) "java/lang/String" "coder" "B") (.int (iI 0))) ∧ nL[b + 2]? = some (Cond.arrayOf (.field (.string C k) "java/lang/String" "value" "[B") .byte) ∧ nL[b + 3]? = some (Cond.eq (.length (.field (.string C k) "java/lang/String" "value" "[B")) (.int (Int32.ofNat l.length))) ∧ ∀ j, j < l.length → nL[b + 4 + j]? = some (Cond.eq (.elem (.field (.string C k) "java/lang/String" "value" "[B") (.int (Int32.ofNat j))) (.int (iI ((l.getD j 0 : Nat) : Int))))
def nkP : List Nat := [52, 58, 61, 64, 67, 70, 73, 76]
def nbP : List Nat := [1507, 1521, 1537, 1550, 1561, 1574, 1588, 1120]
def nbT : List Nat := [1130, 1144, 1169, 1185, 1212, 1225, 1248, 1259, 1278, 1291, 1315, 1329, 1350, 1363, 1373, 1384, 1402, 1418, 1434, 1448, 1461, 1475, 1485, 1496]
def nbE : List Nat := [271, 275, 280, 286, 293, 301, 310, 4]
def nmE : List String := ["DEPTH", "LIGHT", "PHASE", "DOUSE", "SHIP", "STEER", "SALVAGE", "WAIT"]
theorem nP_ok : ∀ i, i < 8 → nSok RX4 (nkP.getD i 0) (nbP.getD i 0) (roPat.getD i []) := by decide +kernel
theorem nT_ok : ∀ i, i < 24 → nSok RL (337 + 2 * i) (nbT.getD i 0) (roTxt.getD i []) := by decide +kernel
theorem roPat_lt : ∀ i, i < 8 → (roPat.getD i []).length < 2 ^ 31 := by decide +kernel
theorem roTxt_lt : ∀ i, i < 24 → (roTxt.getD i []).length < 2 ^ 31 := by decide +kernel
abbrev nE (i : Nat) : Term := .static RX4 (nmE.getD i "") "LBeamChart$CommandKind;"
theorem nE_ok : ∀ i, i < 8 → nL[nbE.getD i 0]? = some (Cond.exactly (nE i) RX4) ∧ nL[nbE.getD i 0 + 1]? = some (Cond.eq (.field (nE i) "java/lang/Enum" "ordinal" "I") (.int (iI (i : Int)))) ∧ nL[nbE.getD i 0 + 2]? = some (Cond.eq (.field (nE i) RX4 "pattern" "Ljava/lang/String;") (.string RX4 (nkP.getD i 0))) := by decide +kernel
abbrev nKi : Term := .static RX10 "KINDS" "[LBeamChart$CommandKind;"
theorem nKi_ok : nL[12]? = some (Cond.arrayOf nKi (.object RX4)) ∧ nL[13]? = some (Cond.eq (.length nKi) (.int (Int32.ofNat 8))) ∧ ∀ j, j < 8 → nL[15 + j]? = some (Cond.eq (.elem nKi (.int (Int32.ofNat j))) (nE j)) := by decide +kernel
abbrev nSw : Term := .static "BeamChart$1" "$SwitchMap$BeamChart$CommandKind" "[I"
theorem nSw_ok : nL[28]? = some (Cond.arrayOf nSw .int) ∧ nL[29]? = some (Cond.eq (.length nSw) (.int (Int32.ofNat 8))) ∧ ∀ j, j < 8 → nL[30 + j]? = some (Cond.eq (.elem nSw (.int (Int32.ofNat j))) (.int (iI (((j + 1) % 8 : Nat) : Int)))) := by decide +kernel
abbrev nTx : Term := .static RL "TEXTS" "[Ljava/lang/String;"
theorem nTx_ok : nL[39]? = some (Cond.arrayOf nTx (.object RJ0)) ∧ nL[40]? = some (Cond.eq (.length nTx) (.int (Int32.ofNat 24))) ∧ ∀ j, j < 24 → nL[41 + j]? = some (Cond.eq (.elem nTx (.int (Int32.ofNat j))) (.string RL (337 + 2 * j))) := by decide +kernel
abbrev nD1 : Term := .static RJ6 "DigitOnes" "[B"
theorem nD1_ok : nL[66]? = some (Cond.arrayOf nD1 .byte) ∧ nL[67]? = some (Cond.eq (.length nD1) (.int (Int32.ofNat 100))) ∧ ∀ j, j < 100 → nL[68 + j]? = some (Cond.eq (.elem nD1 (.int (Int32.ofNat j))) (.int (iI ((48 + j % 10 : Nat) : Int)))) := by decide +kernel
abbrev nD2 : Term := .static RJ6 "DigitTens" "[B"
theorem nD2_ok : nL[169]? = some (Cond.arrayOf nD2 .byte) ∧ nL[170]? = some (Cond.eq (.length nD2) (.int (Int32.ofNat 100))) ∧ ∀ j, j < 100 → nL[171 + j]? = some (Cond.eq (.elem nD2 (.int (Int32.ofNat j))) (.int (iI ((48 + j / 10 : Nat) : Int)))) := by decide +kernel
theorem nS_ok : ∀ q ∈ zStr, Cond.exactly (.string q.1 q.2.1) "java/lang/String" ∈ nL ∧ Cond.stringRef q.1 q.2.1 q.2.2 ∈ lw_tbl := by decide +kernel
theorem nC_ok : ∀ q ∈ zNcL, Cond.not (.castable q.1 q.2) ∈ nL := by decide +kernel
theorem nZ_ok : ∀ q ∈ zSt, Cond.laysStatic q.1 q.2.1 q.2.2.1 ∈ lw_tbl ∧ Cond.initialized q.1 ∈ lw_tbl := by decide +kernel
theorem nA_ok : ∀ C ∈ zAOs, Cond.arrayOver (.object C) ∈ lw_tbl := by decide +kernel
theorem nB_ok : nL[7]? = some (Cond.eq (.static "java/lang/String" "COMPACT_STRINGS" "Z") (.int (iI 1))) ∧ nL[8]? = some (Cond.isRef (.static "java/lang/Throwable" "UNASSIGNED_STACK" "[Ljava/lang/StackTraceElement;")) ∧ nL[9]? = some (Cond.isRef (.static "java/lang/Throwable" "SUPPRESSED_SENTINEL" "Ljava/util/List;")) ∧ nL[23]? = some (Cond.isRef (.static "jdk/internal/util/Preconditions" "SIOOBE_FORMATTER" "Ljava/util/function/BiFunction;")) := by decide +kernel
abbrev nA (s : State) : Nat → Prop := fun q => s.heap.size ≤ q
theorem nA_not : ∀ a : Nat, a < s.heap.size → ¬ nA s a := fun a h q => absurd h (Nat.not_lt.mpr q)
theorem nStr {C : String} {k b : Nat} {l : List Nat} (hg : nW.before args s = true) (h : nSok C k b l) (hl : l.length < 2 ^ 31) : ∃ q : Nat × Nat, (Term.string C k).eval args s none [] s = some (.ref q.1) ∧ va_O RJ0 q.1 (nA s) s s.heap ∧ va_OF RJ0 "coder" "B" (.int (iI 0)) q.1 (nA s) s s.heap ∧ va_OF RJ0 "value" "[B" (.ref q.2) q.1 (nA s) s s.heap ∧ va_T .byte q.2 l.length (fun j => .int (iI ((l.getD j 0 : Nat) : Int))) (nA s) s s.heap := by
  obtain ⟨h0, h1, h2, h3, h4⟩ := h
  obtain ⟨a, c, cA, kA, q1, q2, q3, q4, q5, q6, -⟩ := Cond.exactly_spec (args := args) (first := s) (o := none) (s := s) (idx := []) (nG _ h0 hg)
  obtain ⟨t, ht, hT⟩ := va_Tof (f := fun j => .int (iI ((l.getD j 0 : Nat) : Int))) (A := nA s) hl (nG _ h2 hg) (va_eqt (nG _ h3 hg)) (fun j hj => va_eqt (nG _ (h4 j hj) hg)) nA_not
  exact ⟨(a, t), q1, ⟨cA, q3, q5, by rw [q6]; exact q2, nA_not a (Array.getElem?_eq_some_iff.mp q3).1⟩, vk_OFof q1 (va_eqt (nG _ h1 hg)) nA_not, vk_OFof q1 ht nA_not, hT⟩
theorem va_Tcong {ty : FieldType} {t N : Nat} {f f' : Nat → Value} {A : Nat → Prop} {U : State} {H : Heap} (h : va_T ty t N f A U H) (e : ∀ j, j < N → f' j = f j) : va_T ty t N f' A U H := by
  obtain ⟨cell, h1, h2, h3, h4, h5, h6, h7⟩ := h
  exact ⟨cell, h1, h2, h3, h4, h5, fun j hj => by rw [e j hj]; exact h6 j hj, h7⟩
theorem nDe {t : Term} (h : (Cond.isRef t).before args s = true) : t.eval args s none [] s = some .null ∨ ∃ a, t.eval args s none [] s = some (.ref a) := by
  cases hv : t.eval args s none [] s with
  | none => simp [Cond.before, Cond.holds, Cond.value, hv] at h
  | some w =>
    simp only [Cond.before, Cond.holds, Cond.value, hv] at h
    cases w with
    | null => exact Or.inl rfl
    | ref a => exact Or.inr ⟨a, rfl⟩
    | _ => simp at h
end
/-- the cells that stand from the start -/
def roC (xs : List Int32) (a : Nat) : zC :=
  if a = 0 then (109, zar 8 (fun i => .ref (1 + i))) else if a = 9 then (100, zar 8 (fun i => .int (iI (((i + 1) % 8 : Nat) : Int)))) else if a = 10 then (104, zar 100 (fun i => .int (iI ((48 + i % 10 : Nat) : Int)))) else if a = 11 then (104, zar 100 (fun i => .int (iI ((48 + i / 10 : Nat) : Int))))
  else if 12 ≤ a ∧ a < 20 then (0, [.ref (20 + (a - 12)), .int (iI 0)]) else if 20 ≤ a ∧ a < 28 then (104, bys (roPat.getD (a - 20) [])) else if a = 28 then (110, zar 24 (fun i => .ref (29 + i))) else if 29 ≤ a ∧ a < 53 then (0, [.ref (53 + (a - 29)), .int (iI 0)]) else if 53 ≤ a ∧ a < 77 then (104, bys (roTxt.getD (a - 53) [])) else if a = 77 then (100, xs.map .int) else (98, [])
def roL (xs : List Int32) : zH := (List.range 100).map (roC xs)
theorem roL_len (xs : List Int32) : (roL xs).length = 100 := by unfold roL; rw [List.length_map, List.length_range]
theorem roL_at (xs : List Int32) {a : Nat} (ha : a < 100) : (roL xs)[a]? = some (roC xs a) := by unfold roL; rw [List.getElem?_map, List.getElem?_range ha]; rfl
theorem roL_rs (xs : List Int32) : zRs (roL xs) := by
  refine ⟨roL_at xs (by decide), roL_at xs (by decide), roL_at xs (by decide), roL_at xs (by decide), fun k hk => ⟨?_, ?_⟩, roL_at xs (by decide), fun k hk => ⟨?_, ?_⟩⟩
  · rw [roL_at xs (by omega)]
    unfold roC
    rw [if_neg (by omega), if_neg (by omega), if_neg (by omega), if_neg (by omega), if_pos (by omega), show 12 + k - 12 = k by omega]
  · rw [roL_at xs (by omega)]
    unfold roC
    rw [if_neg (by omega), if_neg (by omega), if_neg (by omega), if_neg (by omega), if_neg (by omega), if_pos (by omega), show 20 + k - 20 = k by omega]
  · rw [roL_at xs (by omega)]
    unfold roC
    rw [if_neg (by omega), if_neg (by omega), if_neg (by omega), if_neg (by omega), if_neg (by omega), if_neg (by omega), if_neg (by omega), if_pos (by omega), show 29 + k - 29 = k by omega]
  · rw [roL_at xs (by omega)]
    unfold roC
    rw [if_neg (by omega), if_neg (by omega), if_neg (by omega), if_neg (by omega), if_neg (by omega), if_neg (by omega), if_neg (by omega), if_neg (by omega), if_pos (by omega), show 53 + k - 53 = k by omega]
/-- where they stand: the array of kinds, the kinds, the switch's table, the digits, the patterns, their bytes, the array of texts, the texts, their bytes, the script, some object -/
def roA (tK : Nat) (tE : Nat → Nat) (tS t1 t2 : Nat) (pA : Nat → Nat × Nat) (tT : Nat) (xA : Nat → Nat × Nat) (b tF a : Nat) : Nat :=
  if a = 0 then tK else if a < 9 then tE (a - 1) else if a = 9 then tS else if a = 10 then t1 else if a = 11 then t2 else if a < 20 then (pA (a - 12)).1 else if a < 28 then (pA (a - 20)).2 else if a = 28 then tT else if a < 53 then (xA (a - 29)).1 else if a < 77 then (xA (a - 53)).2 else if a = 77 then b else tF
