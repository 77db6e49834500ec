/-! methods of classes that have entries of the machine's own; signed numbers; Math -/
section VOF
variable {l : Launch}
theorem vx_ofWF {y : MethodName} {ws ws' : List Cond} {rm : Room} {Pc : Array Value → State → Prop} {Qc : Array Value → State → Outcome → State → Prop} {XC : String → State → State → Prop} {mc ms : Nat} {free : Addr → Prop} {cc : ByteArray} {maxL : Nat} {ret : Option FieldType}
    (hy : plainFor y = true) (hw : ws = Cond.code y cc maxL ret :: ws')
    (body : ∀ p e s m args below meth c s₁, BodyLoose p l y (headSpec ws rm) cc maxL ret e s m args below meth c s₁ → c.maxLocals = maxL → (∀ x ∈ c.exceptionTable.toList, False) → Pc args s →
      W p l e (headSpec ws rm).room s m args below meth c s.heap [] 0 0 (vx_MQ below Qc XC args s mc ms free) (entryFrame m args maxL)) : vx_Met l y ws rm Pc Qc XC mc ms free := by
  refine MetFree.of_bodySF (code := cc) (maxLocals := maxL) (ret := ret) hy ?_ ?_
  · intro args s m h hn
    obtain ⟨meth, c, h1, h2, h3, h4, h5, h6, -, -⟩ := Cond.code_spec hn (atoms_spec (ws := ws) h _ (by rw [hw]; exact List.mem_cons_self))
    exact ⟨meth, c, h1, h2, h3, h4, h5, h6⟩
  · intro p e s m args below meth c s₁ B hml hP _
    have hh0 : s₁.heap = s.heap := by rw [B.state]; rfl
    have ht : ∀ x ∈ c.exceptionTable.toList, False := by
      obtain ⟨meth9, c9, h1, h2, -, -, -, -, h7, -⟩ := Cond.code_spec B.named (atoms_spec (ws := ws) B.pre _ (by rw [hw]; exact List.mem_cons_self))
      cases Option.some.inj (h1.symm.trans B.method)
      cases Option.some.inj (h2.symm.trans (Stand.of_body B).code)
      intro x hx
      rw [Array.isEmpty_iff.mp h7] at hx
      cases hx
    obtain ⟨t, a1, o, b1, b2, b3⟩ := body p e s m args below meth c s₁ B hml ht hP s₁ hh0 (Stand.of_body B)
    exact ⟨t, o, a1, b1, b2, b3⟩
end VOF
theorem zMet.ofF {y : MethodName} {cc : ByteArray} {maxL : Nat} {ret : Option FieldType} {d mc ms : Nat} {as : List Value} {h : zH} {P : Option Value → zH → Prop} {E : String → zH → Prop} (hy : plainFor y = true) (hsl : (lg_sl as).length ≤ maxL)
    (body : ∀ X : zX, zF zT zN X cc y.cls → zB X d mc ms ret P E → X.2.2.2.2.2.2.2.2.1.name = y.name → X.2.2.2.2.2.2.2.2.2.2.2.2 = maxL → X.2.2.2.1 = zRm d mc ms → Z X 0 0 0 (lv_args 0 as) [] h) : zMet y cc maxL ret d mc ms as h P E := by
  intro l g htr
  refine vx_ofWF (cc := cc) (maxL := maxL) (ret := ret) (ws' := zT) hy rfl ?_
  intro p e s m args below meth c s₁ B hml hxt hv
  obtain ⟨rfl, hP, hK, hO, hg, hn, hx⟩ := hv
  have hts := atoms_spec (ws := zW y cc maxL ret) B.pre
  have hown : s.vm.findClass y.cls = some m.cls := findClass_of_methodNamed B.named
  have hF : zF zT zN (p, l, e, zRm d mc ms, s, m, (as.map (zv g)).toArray, below, meth, c, vx_MQ below (zQ g P) (zXC g E) (as.map (zv g)).toArray s mc ms (zA g), g, maxL) cc y.cls :=
    ⟨B.exec, B.bytes, hml, hown, fun w hw => hts w (List.mem_cons_of_mem _ hw), hn, hK, hO, hg, B.notSynchronized, htr, hx⟩
  have hbody := body _ hF ⟨rfl, rfl, B.returns, hxt⟩ (name_of_methodNamed B.named B.method).1 rfl rfl
  have hsl2 : (lg_sl (as.map (zv g))).length ≤ maxL := by
    have e9 : ∀ vs : List Value, (lg_sl (vs.map (zv g))).length = (lg_sl vs).length := by
      intro vs
      induction vs with
      | nil => rfl
      | cons v vs ih => cases v <;> simp [lg_sl, zv, Value.category] at ih ⊢ <;> omega
    rw [e9]; exact hsl
  have hl := lv_entry (as.map (zv g)) (n := maxL) hsl2
  rw [lg_entry_eq]
  exact hbody _ _ _ (by rw [zpl_args, ← zargs_map]; exact hl) hP va_S.rf

theorem zMet.goF {y : MethodName} {cc : ByteArray} {maxL : Nat} {ret : Option FieldType} {d mc ms : Nat} {as : List Value} {h : zH} {P : Option Value → zH → Prop} {E : String → zH → Prop} (hy : plainFor y = true) (hsl : (lg_sl as).length ≤ maxL)
    (body : ∀ X : zX, zF zT zN X cc y.cls → zB X d mc ms ret P E → zNL X maxL → X.2.2.2.1 = zRm d mc ms → X.2.2.2.2.2.2.2.2.1.name = y.name → Z X 0 0 0 (lv_args 0 as) [] h) : zMet y cc maxL ret d mc ms as h P E :=
  zMet.ofF hy hsl fun X F B hn hm hR => body X F B (fun i q => by rw [hm]; exact q) hR hn
theorem nZ_nI (n : Nat) : nI n = iI n := iI_nI n
theorem nZ_toInt {z : Int} (h1 : -2147483648 ≤ z) (h2 : z < 2147483648) : (iI z).toInt = z := Int32.toInt_ofInt_of_le h1 h2
theorem nZ_asI (x : Int32) : iI x.toInt = x := Int32.ofInt_toInt x
theorem nZ_add (a b : Int) : iI a + iI b = iI (a + b) := (Int32.ofInt_add a b).symm
theorem nZ_sub (a b : Int) : iI a - iI b = iI (a - b) := (Int32.ofInt_sub a b).symm
theorem nZ_mul (a b : Int) : iI a * iI b = iI (a * b) := (Int32.ofInt_mul a b).symm
theorem nZ_neg (a : Int) : -iI a = iI (-a) := (Int32.ofInt_neg a).symm
theorem zrng (x : Int32) : -2147483648 ≤ x.toInt ∧ x.toInt < 2147483648 := by
  have h1 := Int32.toInt_lt x
  have h2 := Int32.le_toInt x
  omega
theorem nZ_inj {a b : Int} (h1 : -2147483648 ≤ a) (h2 : a < 2147483648) (h3 : -2147483648 ≤ b) (h4 : b < 2147483648) : iI a = iI b ↔ a = b := by
  refine ⟨fun h => ?_, fun h => by rw [h]⟩
  rw [← nZ_toInt h1 h2, ← nZ_toInt h3 h4, h]
theorem nZ_div {a b : Int} (h1 : -2147483648 < a) (h2 : a < 2147483648) (h3 : 0 < b) (h4 : b < 2147483648) : iI a / iI b = iI (a.tdiv b) := by
  apply Int32.toInt_inj.mp
  have hb : (a.tdiv b).natAbs ≤ a.natAbs := by rw [Int.natAbs_tdiv]; exact Nat.div_le_self _ _
  rw [Int32.toInt_div, nZ_toInt (by omega) h2, nZ_toInt (by omega) h4, nZ_toInt (by omega) (by omega)]
  exact Int.bmod_eq_of_le (by omega) (by omega)
theorem zneg_msb (x : Int32) : x < 0 ↔ x.toBitVec.msb = true := by
  rw [zlt]
  show x.toBitVec.toInt < 0 ↔ _
  rw [BitVec.msb_eq_toInt]
  simp
theorem zxor_neg (x y : Int32) : x ^^^ y < 0 ↔ ¬ (x < 0 ↔ y < 0) := by
  rw [zneg_msb, zneg_msb, zneg_msb, Int32.toBitVec_xor, BitVec.msb_xor]
  cases x.toBitVec.msb <;> cases y.toBitVec.msb <;> simp
theorem tdiv_floor {a b : Int} (hb : 0 < b) : a.tdiv b = if a < 0 ∧ a.tdiv b * b ≠ a then a / b + 1 else a / b := by
  have h0 := Int.tdiv_eq_ediv (a := a) (b := b)
  by_cases ha : 0 ≤ a
  · rw [if_neg (by omega)]
    rw [h0, if_pos (Or.inl ha)]; omega
  · by_cases hd : b ∣ a
    · have h1 : a.tdiv b = a / b := by rw [h0, if_pos (Or.inr hd)]; omega
      have h2 : a / b * b = a := Int.ediv_mul_cancel hd
      rw [if_neg (fun q => q.2 (by rw [h1]; exact h2))]
      exact h1
    · have h1 : a.tdiv b = a / b + 1 := by rw [h0, if_neg (by rintro (q | q) <;> contradiction), Int.sign_eq_one_of_pos hb]
      have h2 : a.tdiv b * b ≠ a := fun q => hd ⟨a.tdiv b, by rw [Int.mul_comm]; exact q.symm⟩
      rw [if_pos ⟨by omega, h2⟩]
      exact h1

section ZM
variable {X : zX} {cc : ByteArray} {own : String} {k n pc d mc ms : Nat} {ls : zL} {st : List Value} {h : zH}
theorem zrm_sl {st : List Value} {g : zG} (hre : (st.map (fun v => v.category)).sum ≤ 8) {d : Nat} (hd1 : 1 ≤ d) : ((st.map (zv g)).map fun v => v.category).sum + 13 ≤ 60 * d := by
  have := zrest_ok (g := g) hre
  omega
/-- Math.max -/
theorem zi_max (F : zF zT zN X cc own) {index : Nat} {a b : Int} (hd : decode cc pc = .ok (.invokestatic index, 3)) (hlk : Cond.methodLink own index Lib.Math.max.name ∈ zT) (hst : Cond.static Lib.Math.max.name ∈ zT) (hin : Cond.initialized "java/lang/Math" ∈ zT) (hco : Cond.code Lib.Math.max.name Lib.Math.max.code 2 (some .int) ∈ zT) (hR : X.2.2.2.1 = zRm d mc ms) (hd1 : 1 ≤ d) (hk : k ≤ mc) (hn : n ≤ ms) (hre : (st.map (fun v => v.category)).sum ≤ 8) (hb : (-2147483648 ≤ a ∧ a < 2147483648) ∧ -2147483648 ≤ b ∧ b < 2147483648) (K : Z X k n (pc + 3) ls (.int (iI (if a < b then b else a)) :: st) h) : Z X k n pc ls (.int (iI b) :: .int (iI a) :: st) h := by
  obtain ⟨p, l, e, R, s, m, args, below, meth, c, Q, g, nL⟩ := X
  have hR : R = zRm d mc ms := hR
  subst hR
  intro la H locs hl hP hS
  refine va_mmax F.1 F.2.1 (F.2.2.1.trans hl.1.symm) F.2.2.2.1 (F.2.2.2.2.1 _ hlk) (F.2.2.2.2.1 _ hst) (F.2.2.2.2.1 _ hin) (F.2.2.2.2.1 _ hco) hd1 (zrm_sl hre hd1) hk hn hd ?_
  have hx : (if iI a < iI b then iI b else iI a) = iI (if a < b then b else a) := by
    by_cases hab : a < b
    · rw [if_pos hab, if_pos ((iI_lt hb).mpr hab)]
    · rw [if_neg hab, if_neg (fun q => hab ((iI_lt hb).mp q))]
  rw [hx]
  exact K la H locs hl hP hS
theorem zi_min (F : zF zT zN X cc own) {index : Nat} {a b : Int} (hd : decode cc pc = .ok (.invokestatic index, 3)) (hlk : Cond.methodLink own index Lib.Math.min.name ∈ zT) (hst : Cond.static Lib.Math.min.name ∈ zT) (hin : Cond.initialized "java/lang/Math" ∈ zT) (hco : Cond.code Lib.Math.min.name Lib.Math.min.code 2 (some .int) ∈ zT) (hR : X.2.2.2.1 = zRm d mc ms) (hd1 : 1 ≤ d) (hk : k ≤ mc) (hn : n ≤ ms) (hre : (st.map (fun v => v.category)).sum ≤ 8) (hb : (-2147483648 ≤ a ∧ a < 2147483648) ∧ -2147483648 ≤ b ∧ b < 2147483648) (K : Z X k n (pc + 3) ls (.int (iI (if b < a then b else a)) :: st) h) : Z X k n pc ls (.int (iI b) :: .int (iI a) :: st) h := by
  obtain ⟨p, l, e, R, s, m, args, below, meth, c, Q, g, nL⟩ := X
  have hR : R = zRm d mc ms := hR
  subst hR
  intro la H locs hl hP hS
  refine va_mmin F.1 F.2.1 (F.2.2.1.trans hl.1.symm) F.2.2.2.1 (F.2.2.2.2.1 _ hlk) (F.2.2.2.2.1 _ hst) (F.2.2.2.2.1 _ hin) (F.2.2.2.2.1 _ hco) hd1 (zrm_sl hre hd1) hk hn hd ?_
  have hx : (if iI b < iI a then iI b else iI a) = iI (if b < a then b else a) := by
    by_cases hab : b < a
    · rw [if_pos hab, if_pos ((iI_lt ⟨hb.2, hb.1⟩).mpr hab)]
    · rw [if_neg hab, if_neg (fun q => hab ((iI_lt ⟨hb.2, hb.1⟩).mp q))]
  rw [hx]
  exact K la H locs hl hP hS
theorem zi_abs (F : zF zT zN X cc own) {index : Nat} {a : Int} (hd : decode cc pc = .ok (.invokestatic index, 3)) (hlk : Cond.methodLink own index Lib.Math.abs.name ∈ zT) (hst : Cond.static Lib.Math.abs.name ∈ zT) (hin : Cond.initialized "java/lang/Math" ∈ zT) (hco : Cond.code Lib.Math.abs.name Lib.Math.abs.code 1 (some .int) ∈ zT) (hR : X.2.2.2.1 = zRm d mc ms) (hd1 : 1 ≤ d) (hk : k ≤ mc) (hn : n ≤ ms) (hre : (st.map (fun v => v.category)).sum ≤ 8) (hb : -2147483648 < a ∧ a < 2147483648) (K : Z X k n (pc + 3) ls (.int (iI a.natAbs) :: st) h) : Z X k n pc ls (.int (iI a) :: st) h := by
  obtain ⟨p, l, e, R, s, m, args, below, meth, c, Q, g, nL⟩ := X
  have hR : R = zRm d mc ms := hR
  subst hR
  intro la H locs hl hP hS
  refine va_mabs F.1 F.2.1 (F.2.2.1.trans hl.1.symm) F.2.2.2.1 (F.2.2.2.2.1 _ hlk) (F.2.2.2.2.1 _ hst) (F.2.2.2.2.1 _ hin) (F.2.2.2.2.1 _ hco) hd1 (zrm_sl hre hd1) hk hn hd ?_
  have hx : (if 0 ≤ iI a then iI a else 0 - iI a) = iI a.natAbs := by
    rw [iI_0]
    by_cases hab : 0 ≤ a
    · rw [if_pos ((iI_le (a := 0) (by omega)).mpr hab)]
      congr 1
      omega
    · rw [if_neg (fun q => hab ((iI_le (a := 0) (by omega)).mp q)), iI_sub]
      congr 1
      omega
  rw [hx]
  exact K la H locs hl hP hS
end ZM
