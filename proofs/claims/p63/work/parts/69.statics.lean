/-! statics, fields of objects that nobody writes, calls of an inherited method, the cells that stand from the start -/
def zGs (own : String) (index : Nat) (v : Value) : Prop := ∃ C nm d, (C, nm, d, v) ∈ zSt ∧ Cond.fieldLink own index C nm d ∈ zT
def zGsN (own : String) (index : Nat) (v : Value) : Prop := ∃ C nm d host, (C, nm, d, v) ∈ zSt ∧ Cond.fieldLinkNest own index C nm d host ∈ zN
theorem gs_X5_36 : zGsN RX5 36 (.ref 0) := ⟨"BeamChart", "KINDS", "[LBeamChart$CommandKind;", "BeamChart", List.mem_of_getElem? (i := 2) rfl, zN_i 652 (by decide +kernel) (by decide +kernel)⟩
theorem gs_X10_454 : zGs RX10 454 (.ref 9) := ⟨"BeamChart$1", "$SwitchMap$BeamChart$CommandKind", "[I", List.mem_of_getElem? (i := 3) rfl, zT_i 721 (by decide +kernel) (by decide +kernel)⟩
theorem gs_J0_38 : zGs RJ0 38 (.int (iI 1)) := ⟨"java/lang/String", "COMPACT_STRINGS", "Z", List.mem_of_getElem? (i := 1) rfl, zT_i 666 (by decide +kernel) (by decide +kernel)⟩
theorem gs_J5_18 : zGs RJ5 18 (.int (iI 1)) := ⟨"java/lang/String", "COMPACT_STRINGS", "Z", List.mem_of_getElem? (i := 1) rfl, zT_i 295 (by decide +kernel) (by decide +kernel)⟩
theorem gs_L_141 : zGs RL 141 (.ref 28) := ⟨"BeamChartLaw", "TEXTS", "[Ljava/lang/String;", List.mem_of_getElem? (i := 6) rfl, zT_i 935 (by decide +kernel) (by decide +kernel)⟩
theorem gs_J6_83 : zGs RJ6 83 (.ref 10) := ⟨"java/lang/Integer", "DigitOnes", "[B", List.mem_of_getElem? (i := 4) rfl, zT_i 1404 (by decide +kernel) (by decide +kernel)⟩
theorem gs_J0_1053 : zGs RJ0 1053 (.ref 98) := ⟨"jdk/internal/util/Preconditions", "SIOOBE_FORMATTER", "Ljava/util/function/BiFunction;", List.mem_of_getElem? (i := 7) rfl, zT_i 681 (by decide +kernel) (by decide +kernel)⟩
section ZS
variable {X : zX} {cc : ByteArray} {own : String} {k n pc d mc ms : Nat} {ls : zL} {st : List Value} {h : zH} {P : Option Value → zH → Prop} {E : String → zH → Prop}
theorem z_getstatic (F : zF zT zN X cc own) {v : Value} {index : Nat} (G : zGs own index v) (hd : decode cc pc = .ok (.getstatic index, 3)) (K : Z X k n (pc + 3) ls (v :: st) h) (hne : v ≠ .ref 98 := by first | decide | (intro q; injection q with q; exact absurd q (by decide)) | (intro q; injection q)) : Z X k n pc ls st h := by
  obtain ⟨p, l, e, R, s, m, args, below, meth, c, Q, g, nL⟩ := X
  obtain ⟨C, nm, d, hz, hlk⟩ := G
  obtain ⟨hx, hb, hml, hown, hts, hnw, hK, hO, hg, hlo, htr, hex⟩ := F
  intro la H locs hla hP hS
  exact va_gets hx hb ((hex.2.2.2.1 _ hz).resolve_right (fun q => hne q.1)) hS hown (hts _ hlk) (fun _ h => h) hd (K la H locs hla hP hS)
theorem z_getstaticN (F : zF zT zN X cc own) {v : Value} {index : Nat} (G : zGsN own index v) (hd : decode cc pc = .ok (.getstatic index, 3)) (K : Z X k n (pc + 3) ls (v :: st) h) (hne : v ≠ .ref 98 := by first | decide | (intro q; injection q with q; exact absurd q (by decide)) | (intro q; injection q)) : Z X k n pc ls st h := by
  obtain ⟨p, l, e, R, s, m, args, below, meth, c, Q, g, nL⟩ := X
  obtain ⟨C, nm, d, host, hz, hlk⟩ := G
  obtain ⟨hx, hb, hml, hown, hts, hnw, hK, hO, hg, hlo, htr, hex⟩ := F
  intro la H locs hla hP hS
  exact va_getsN hx hb ((hex.2.2.2.1 _ hz).resolve_right (fun q => hne q.1)) hS hown (va_Nw.use rfl (hnw _ hlk)) (fun _ h => h) hd (K la H locs hla hP hS)
/-- a static of which is known only that it holds a reference or null -/
theorem z_getstaticQ (F : zF zT zN X cc own) {index : Nat} (G : zGs own index (.ref 98)) (hd : decode cc pc = .ok (.getstatic index, 3)) (K : ∀ v : Value, v = .ref 98 ∨ v = .null → Z X k n (pc + 3) ls (v :: st) h) : Z X k n pc ls st h := by
  obtain ⟨p, l, e, R, s, m, args, below, meth, c, Q, g, nL⟩ := X
  obtain ⟨C, nm, d, hz, hlk⟩ := G
  obtain ⟨hx, hb, hml, hown, hts, hnw, hK, hO, hg, hlo, htr, hex⟩ := F
  intro la H locs hla hP hS
  rcases hex.2.2.2.1 _ hz with q | ⟨-, q⟩
  · exact va_gets hx hb q hS hown (hts _ hlk) (fun _ h => h) hd (K (.ref 98) (Or.inl rfl) la H locs hla hP hS)
  · exact va_gets hx hb q hS hown (hts _ hlk) (fun _ h => h) hd (K .null (Or.inr rfl) la H locs hla hP hS)
/-- a field of an object that nobody writes -/
def zGr (own : String) (index a : Nat) (v : Value) : Prop := ∃ C nm d, (C, nm, d, v, a) ∈ zRf ∧ Cond.fieldLink own index C nm d ∈ zT
theorem z_getfieldR (F : zF zT zN X cc own) {v : Value} {index a : Nat} (G : zGr own index a v) (hd : decode cc pc = .ok (.getfield index, 3)) (K : Z X k n (pc + 3) ls (v :: st) h) : Z X k n pc ls (.ref a :: st) h := by
  obtain ⟨p, l, e, R, s, m, args, below, meth, c, Q, g, nL⟩ := X
  obtain ⟨C, nm, d, hz, hlk⟩ := G
  obtain ⟨hx, hb, hml, hown, hts, hnw, hK, hO, hg, hlo, htr, hex⟩ := F
  intro la H locs hla hP hS
  obtain ⟨cf, kf, i, f, cell, f1, f2, f3, f4, f5, f6⟩ := hex.2.2.2.2.2.2.1 _ hz
  exact W.getf hx hb hown (hts _ hlk) f1 f2 (a := zq g a) (cell := cell) (v := zv g v) (by rw [hS.2.1 _ (Array.getElem?_eq_some_iff.mp f3).1 f6]; exact f3) f4 f5 rfl rfl hd (K la H locs hla hP hS)
/-- the cells that stand from the start -/
def zro (X : zX) : zH := X.2.2.2.2.2.2.2.2.2.2.2.1.2.2.1
theorem z_ro (F : zF zT zN X cc own) (K : (∀ a, a < zNR → h[a]? = (zro X)[a]?) → Z X k n pc ls st h) : Z X k n pc ls st h := by
  obtain ⟨p, l, e, R, s, m, args, below, meth, c, Q, g, nL⟩ := X
  intro la H locs hla hP hS
  refine K (fun a ha => ?_) la H locs hla hP hS
  obtain ⟨hm, e, -, -⟩ := hP
  subst e
  have hl : g.2.2.1.length = zNR := F.2.2.2.2.2.2.2.2.2.2.2.1
  exact List.getElem?_append_left (by rw [hl]; exact ha)
theorem z_callU {x y : MethodName} {owner C : String} {c2 : ByteArray} {maxL2 np d2 mc2 ms2 index b : Nat} {ret ret2 : Option FieldType} {as rest : List Value} {P2 : Option Value → zH → Prop} {E2 : String → zH → Prop} (F : zF zT zN X cc own) (B : zB X d mc ms ret P E) (Cy : zCal y c2 maxL2 ret2 np) (M : zMet y c2 maxL2 ret2 d2 mc2 ms2 (.ref b :: as) h P2 E2) (hd : decode cc pc = .ok (.invokevirtual index, 3)) (hst : st = as.reverse ++ .ref b :: rest) (hn : as.length = np) (hre : (rest.map (fun v => v.category)).sum ≤ 8) (hd2 : d2 + 1 ≤ d) (hmc : k + mc2 ≤ mc) (hms : n + ms2 ≤ ms) (hlk : Cond.methodLink own index x ∈ zT) (hsm : Cond.sameMethod x.cls owner x.name x.desc ∈ zT) (hse : Cond.selects C x y ∈ zT) (hin : Cond.instanceMethod y ∈ zT) (hyx : y = ⟨owner, x.name, x.desc⟩) (hmh : owner ≠ "java/lang/invoke/MethodHandle" ∧ owner ≠ "java/lang/invoke/VarHandle" ∧ (parseMethodDescriptor x.desc).map (fun d => d.parameters.length) = some np) (hro : (C, b) ∈ zRoO) (K : ∀ v h', P2 v h' → Z X (k + mc2) (n + ms2) (pc + 3) ls (v.toList ++ rest) h') (KX : ∀ C h', E2 C h' → E C h') : Z X k n pc ls st h := by
  obtain ⟨p, l, e, R, s, m, args, below, meth, c, Q, g, nL⟩ := X
  have F0' := F
  obtain ⟨hx, hb, hml, hown, hts, hnw, hK, hO, hg, hlo, htr, hex⟩ := F
  obtain ⟨hR, rfl, hr, hxt⟩ := B
  obtain ⟨c1, c3, c4, c5⟩ := Cy
  subst hR
  refine z_core (mc2 := mc2) (ms2 := ms2) (rest := rest) (P2 := P2) (E2 := E2) (a := ((.ref b :: as).map (zv g)).toArray) (fun la H locs hla hP hS => ?_) K (fun C h' he la H locs q ce hla hP hS hc hv hcl => zX_out hxt hlo (KX C h' he) hP hS hc hv hcl hmc hms)
  subst hst
  have hG : GoodIn zT (va_wsU own index C owner x y (zW y c2 maxL2 ret2)) := fun w hw => by
    rcases List.mem_append.mp hw with h9 | h9
    · have h8 : w ∈ zT := by
        simp only [List.mem_cons, List.not_mem_nil, or_false] at h9
        rcases h9 with h9 | h9 | h9 | h9 | h9 <;> rw [h9]
        · exact hlk
        · exact hsm
        · exact hse
        · exact hin
        · exact c3
      exact ⟨h8, good_of_word (List.mem_filter.mp h8).2⟩
    · exact zW_good c1 w h9
  have hrec : ∃ cell : Cell, H[zq g b]? = some cell ∧ cell.vm.isStatics = false ∧ s.vm.findClass C = some cell.cls := by
    obtain ⟨cell, f1, f2, f3, f4⟩ := hex.2.2.2.2.2.2.2.1 _ hro
    exact ⟨cell, by rw [hS.2.1 _ (Array.getElem?_eq_some_iff.mp f1).1 f4]; exact f1, f2, f3⟩
  refine vx_runU (C := C) (owner := owner) (x := x) (As := as.map (zv g)) ⟨hx, hb, hml, hown, hts⟩ (M l g htr) (va_cwU np hts hG rfl rfl rfl hyx hmh (zRm_ok hd2 c5)) ⟨zWld_blind, hrec, fun U hU hW => ⟨rfl, zWld_to hK hO hg hnw hex hP hS hU hW⟩⟩ rfl (by rw [List.length_map]; exact hn) hla.1 (by simp [zv]) (by show 2 * 0 + _ ≤ 8; rw [Nat.mul_zero, Nat.zero_add]; exact zrest_ok hre) hd ⟨hmc, hms⟩
end ZS
theorem gr_pat : ∀ i, i < 8 → zGr RX5 40 (1 + i) (.ref (12 + i))
  | 0, _ => ⟨"BeamChart$CommandKind", "pattern", "Ljava/lang/String;", List.mem_of_getElem? (i := 1) rfl, zT_i 1576 (by decide +kernel) (by decide +kernel)⟩
  | 1, _ => ⟨"BeamChart$CommandKind", "pattern", "Ljava/lang/String;", List.mem_of_getElem? (i := 3) rfl, zT_i 1576 (by decide +kernel) (by decide +kernel)⟩
  | 2, _ => ⟨"BeamChart$CommandKind", "pattern", "Ljava/lang/String;", List.mem_of_getElem? (i := 5) rfl, zT_i 1576 (by decide +kernel) (by decide +kernel)⟩
  | 3, _ => ⟨"BeamChart$CommandKind", "pattern", "Ljava/lang/String;", List.mem_of_getElem? (i := 7) rfl, zT_i 1576 (by decide +kernel) (by decide +kernel)⟩
  | 4, _ => ⟨"BeamChart$CommandKind", "pattern", "Ljava/lang/String;", List.mem_of_getElem? (i := 9) rfl, zT_i 1576 (by decide +kernel) (by decide +kernel)⟩
  | 5, _ => ⟨"BeamChart$CommandKind", "pattern", "Ljava/lang/String;", List.mem_of_getElem? (i := 11) rfl, zT_i 1576 (by decide +kernel) (by decide +kernel)⟩
  | 6, _ => ⟨"BeamChart$CommandKind", "pattern", "Ljava/lang/String;", List.mem_of_getElem? (i := 13) rfl, zT_i 1576 (by decide +kernel) (by decide +kernel)⟩
  | 7, _ => ⟨"BeamChart$CommandKind", "pattern", "Ljava/lang/String;", List.mem_of_getElem? (i := 15) rfl, zT_i 1576 (by decide +kernel) (by decide +kernel)⟩
  | n + 8, h => absurd h (by omega)
theorem gr_ord : ∀ i, i < 8 → zGr RJx29ce0 7 (1 + i) (.int (iI (i : Int)))
  | 0, _ => ⟨"java/lang/Enum", "ordinal", "I", List.mem_of_getElem? (i := 0) rfl, zT_i 1577 (by decide +kernel) (by decide +kernel)⟩
  | 1, _ => ⟨"java/lang/Enum", "ordinal", "I", List.mem_of_getElem? (i := 2) rfl, zT_i 1577 (by decide +kernel) (by decide +kernel)⟩
  | 2, _ => ⟨"java/lang/Enum", "ordinal", "I", List.mem_of_getElem? (i := 4) rfl, zT_i 1577 (by decide +kernel) (by decide +kernel)⟩
  | 3, _ => ⟨"java/lang/Enum", "ordinal", "I", List.mem_of_getElem? (i := 6) rfl, zT_i 1577 (by decide +kernel) (by decide +kernel)⟩
  | 4, _ => ⟨"java/lang/Enum", "ordinal", "I", List.mem_of_getElem? (i := 8) rfl, zT_i 1577 (by decide +kernel) (by decide +kernel)⟩
  | 5, _ => ⟨"java/lang/Enum", "ordinal", "I", List.mem_of_getElem? (i := 10) rfl, zT_i 1577 (by decide +kernel) (by decide +kernel)⟩
  | 6, _ => ⟨"java/lang/Enum", "ordinal", "I", List.mem_of_getElem? (i := 12) rfl, zT_i 1577 (by decide +kernel) (by decide +kernel)⟩
  | 7, _ => ⟨"java/lang/Enum", "ordinal", "I", List.mem_of_getElem? (i := 14) rfl, zT_i 1577 (by decide +kernel) (by decide +kernel)⟩
  | n + 8, h => absurd h (by omega)
theorem ro_kind : ∀ i, i < 8 → ("BeamChart$CommandKind", 1 + i) ∈ zRoO
  | 0, _ => List.mem_of_getElem? (i := 0) rfl
  | 1, _ => List.mem_of_getElem? (i := 1) rfl
  | 2, _ => List.mem_of_getElem? (i := 2) rfl
  | 3, _ => List.mem_of_getElem? (i := 3) rfl
  | 4, _ => List.mem_of_getElem? (i := 4) rfl
  | 5, _ => List.mem_of_getElem? (i := 5) rfl
  | 6, _ => List.mem_of_getElem? (i := 6) rfl
  | 7, _ => List.mem_of_getElem? (i := 7) rfl
  | n + 8, h => absurd h (by omega)
/-- the patterns of the commands, as signs -/
def roPat : List (List Nat) := [[100, 101, 112, 116, 104, 32, 35, 35, 61, 35], [108, 105, 103, 104, 116, 32, 35, 35, 32, 35, 47, 78], [112, 104, 97, 115, 101, 32, 35, 61, 35], [100, 111, 117, 115, 101, 32, 35], [115, 104, 105, 112, 32, 35, 35, 32, 35], [115, 116, 101, 101, 114, 32, 35, 62, 35, 35], [115, 97, 108, 118, 97, 103, 101, 32, 35], [119, 97, 105, 116, 32, 78]]
/-- the law's texts, as signs -/
def roTxt : List (List Nat) := [[100, 101, 112, 116, 104, 32, 51, 51, 61, 48], [100, 101, 112, 116, 104, 32, 48, 48, 61, 57, 59, 100, 101, 112, 116, 104, 32, 48, 49, 61, 49], [108, 105, 103, 104, 116, 32, 52, 52, 32, 57, 47, 56], [108, 105, 103, 104, 116, 32, 48, 55, 32, 51, 47, 50, 52, 59, 112, 104, 97, 115, 101, 32, 48, 61, 51], [112, 104, 97, 115, 101, 32, 48, 61, 48], [112, 104, 97, 115, 101, 32, 48, 61, 53, 59, 112, 104, 97, 115, 101, 32, 48, 61, 54], [100, 111, 117, 115, 101, 32, 48], [100, 111, 117, 115, 101, 32, 49, 59, 100, 111, 117, 115, 101, 32, 48], [115, 104, 105, 112, 32, 50, 50, 32, 51], [115, 104, 105, 112, 32, 55, 48, 32, 53, 59, 115, 116, 101, 101, 114, 32, 48, 62, 55, 55], [115, 116, 101, 101, 114, 32, 48, 62, 49, 49], [115, 116, 101, 101, 114, 32, 49, 62, 48, 48, 59, 119, 97, 105, 116, 32, 51], [115, 97, 108, 118, 97, 103, 101, 32, 48], [119, 97, 105, 116, 32, 49], [119, 97, 105, 116, 32, 52, 56], [119, 97, 105, 116, 32, 48, 53, 59, 119, 97, 105, 116, 32, 50], [108, 105, 103, 104, 116, 32, 52, 52, 32, 48, 47, 56], [108, 105, 103, 104, 116, 32, 52, 52, 32, 49, 47, 55], [100, 101, 112, 116, 104, 32, 56, 48, 61, 49], [115, 104, 105, 112, 32, 49, 49, 32, 48], [115, 116, 101, 101, 114, 32, 48, 62, 56, 56], [119, 97, 105, 116, 32, 48], [119, 97, 105, 116, 32, 52, 57], [100, 111, 117, 115, 101, 32, 57]]
