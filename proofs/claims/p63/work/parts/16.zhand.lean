/-! methods with handlers: contracts, ends, calls -/
def zWH (y : MethodName) (cc : ByteArray) (maxL : Nat) (ret : Option FieldType) (hh : List (Nat × Nat × Nat × Nat)) : List Cond := .codeWith y cc maxL ret hh :: zT
theorem zWH_good {y : MethodName} {cc : ByteArray} {maxL : Nat} {ret : Option FieldType} {hh : List (Nat × Nat × Nat × Nat)} (h : Cond.codeWith y cc maxL ret hh ∈ zT) : GoodIn zT (zWH y cc maxL ret hh) := fun w hw => by
  have h1 : w ∈ zT := by
    rcases List.mem_cons.mp hw with e | e
    · rw [e]; exact h
    · exact e
  exact ⟨h1, good_of_word (List.mem_filter.mp h1).2⟩
def zMetH (y : MethodName) (cc : ByteArray) (maxL : Nat) (ret : Option FieldType) (hh : List (Nat × Nat × Nat × Nat)) (d mc ms : Nat) (as : List Value) (h : zH) (P : Option Value → zH → Prop) (E : String → zH → Prop) : Prop :=
  ∀ (l : Launch) (g : zG), l.stackTraces = false → vx_Met l y (zWH y cc maxL ret hh) (zRm d mc ms) (va_Pc (as.map (zv g)) (zWld g h)) (zQ g P) (zXC g E) mc ms (zA g)
def zBH (X : zX) (d mc ms : Nat) (ret : Option FieldType) (P : Option Value → zH → Prop) (E : String → zH → Prop) (hh : List (Nat × Nat × Nat × Nat)) : Prop := match X with
  | (p, l, e, R, s, m, args, below, meth, c, Q, g, nL) => R = zRm d mc ms ∧ Q = vx_MQ below (zQ g P) (zXC g E) args s mc ms (zA g) ∧ meth.sig.returnType = ret ∧ c.exceptionTable.toList = tableOf hh
theorem zMetH.of {hh : List (Nat × Nat × Nat × Nat)} {y : MethodName} {cc : ByteArray} {maxL : Nat} {ret : Option FieldType} {d mc ms : Nat} {as : List Value} {h : zH} {P : Option Value → zH → Prop} {E : String → zH → Prop} (hy : plainName y.cls = true) (hsl : (lg_sl as).length ≤ maxL)
    (body : ∀ X : zX, zF zT zN X cc y.cls → zBH X d mc ms ret P E hh → X.2.2.2.2.2.2.2.2.1.name = y.name → X.2.2.2.2.2.2.2.2.2.2.2.2 = maxL → X.2.2.2.1 = zRm d mc ms → Z X 0 0 0 (lv_args 0 as) [] h) : zMetH y cc maxL ret hh d mc ms as h P E := by
  intro l g htr
  refine vx_ofWH (hh := hh) (cc := cc) (maxL := maxL) (ret := ret) (ws' := zT) hy rfl ?_
  intro p e s m args below meth c s₁ B hml hv
  obtain ⟨rfl, hP, hK, hO, hg, hn, hx⟩ := hv
  have hts := atoms_spec (ws := zWH y cc maxL ret hh) B.pre
  have hown : s.vm.findClass y.cls = some m.cls := findClass_of_methodNamed B.named
  have hF : zF zT zN (p, l, e, zRm d mc ms, s, m, (as.map (zv g)).toArray, below, meth, c, vx_MQ below (zQ g P) (zXC g E) (as.map (zv g)).toArray s mc ms (zA g), g, maxL) cc y.cls :=
    ⟨B.exec, B.bytes, hml, hown, fun w hw => hts w (List.mem_cons_of_mem _ hw), hn, hK, hO, hg, B.notSynchronized, htr, hx⟩
  have hbody := body _ hF ⟨rfl, rfl, B.returns, vx_table (x := y) B (hts _ List.mem_cons_self)⟩ (name_of_methodNamed B.named B.method).1 rfl rfl
  have hsl2 : (lg_sl (as.map (zv g))).length ≤ maxL := by
    have e9 : ∀ vs : List Value, (lg_sl (vs.map (zv g))).length = (lg_sl vs).length := by
      intro vs
      induction vs with
      | nil => rfl
      | cons v vs ih => cases v <;> simp [lg_sl, zv, Value.category] at ih ⊢ <;> omega
    rw [e9]; exact hsl
  have hl := lv_entry (as.map (zv g)) (n := maxL) hsl2
  rw [lg_entry_eq]
  exact hbody _ _ _ (by rw [zpl_args, ← zargs_map]; exact hl) hP va_S.rf

theorem zMetH.go {hh : List (Nat × Nat × Nat × Nat)} {y : MethodName} {cc : ByteArray} {maxL : Nat} {ret : Option FieldType} {d mc ms : Nat} {as : List Value} {h : zH} {P : Option Value → zH → Prop} {E : String → zH → Prop} (hy : plainName y.cls = true) (hsl : (lg_sl as).length ≤ maxL)
    (body : ∀ X : zX, zF zT zN X cc y.cls → zBH X d mc ms ret P E hh → zNL X maxL → X.2.2.2.1 = zRm d mc ms → X.2.2.2.2.2.2.2.2.1.name = y.name → Z X 0 0 0 (lv_args 0 as) [] h) : zMetH y cc maxL ret hh d mc ms as h P E :=
  zMetH.of hy hsl fun X F B hn hm hR => body X F B (fun i q => by rw [hm]; exact q) hR hn
section ZHR
variable {zT0 zN0 : List Cond} {X : zX} {cc : ByteArray} {own : String} {k n pc d mc ms : Nat} {ls : zL} {st : List Value} {h : zH} {P : Option Value → zH → Prop} {E : String → zH → Prop} {hh : List (Nat × Nat × Nat × Nat)}
theorem z_ireturnH (F : zF zT zN X cc own) {v : Int32} {ty : FieldType} (hn : narrow ty (.int v) = .int v) (B : zBH X d k n (some ty) P E hh) (hd : decode cc pc = .ok (.ireturn, 1)) (hp : P (some (.int v)) h) : Z X k n pc ls [.int v] h := by
  obtain ⟨p, l, e, R, s, m, args, below, meth, c, Q, g, nL⟩ := X
  obtain ⟨hx, hb, hml, hown, hts, hnw, hK, hO, hg, hlo, htr⟩ := F
  obtain ⟨hR, rfl, hr, -⟩ := B
  exact fun la H locs hla hP hS => vx_ret (W.zret hx hb hr hn (fun t ht hW => ⟨⟨(some (.int v)), h, rfl, hp, by rw [ht]; exact hP⟩, hS.F ht⟩) hS.2.2 hd)
theorem z_freturnH (F : zF zT zN X cc own) {v : UInt32} (B : zBH X d k n (some .float) P E hh) (hd : decode cc pc = .ok (.freturn, 1)) (hp : P (some (.float v)) h) : Z X k n pc ls [.float v] h := by
  obtain ⟨p, l, e, R, s, m, args, below, meth, c, Q, g, nL⟩ := X
  obtain ⟨hx, hb, hml, hown, hts, hnw, hK, hO, hg, hlo, htr⟩ := F
  obtain ⟨hR, rfl, hr, -⟩ := B
  exact fun la H locs hla hP hS => vx_ret (W.fret hx hb hr (fun t ht hW => ⟨⟨(some (.float v)), h, rfl, hp, by rw [ht]; exact hP⟩, hS.F ht⟩) hS.2.2 hd)
/-- the store that a handler begins with -/
theorem zst0 {g : zG} {la : Array Slot} {nL i : Nat} {w : Value} {ls : zL} (h : lv_has la nL ((i, w) :: (zpl g ls).filter (fun q => !(q.1 == i) && !(q.1 + 1 == i && q.2.category == 2)))) (ho : zok i ls = true) (hn : zno i ls = true) : lv_has la nL (zpl g ls) := by
  refine lv_mono h fun q hq => ?_
  obtain ⟨v2, h3, h4⟩ := zpl_mem g ls q hq
  have h5 : ¬ q.1 = i := zno_mem i ls hn (q.1, v2) h3
  refine List.mem_cons_of_mem _ (List.mem_filter.mpr ⟨hq, ?_⟩)
  by_cases hi : q.1 + 1 = i
  · have := zok_mem i ls ho (q.1, v2) h3 hi
    rw [h4, zv_cat]
    simp [hi, this, h5]
  · simp [hi, h5]
/-- class C, thrown at pc, comes to a handler that stores it at j; behind that store the method goes on -/
def zHnd (X : zX) (cc : ByteArray) (own : String) (hh : List (Nat × Nat × Nat × Nat)) (pc : Nat) (ls : zL) (C : String) (K : Nat → Prop) : Prop := ∃ (pre suf : List (Nat × Nat × Nat × Nat)) (s e hp ct j ln : Nat), hh = pre ++ (s, e, hp, ct) :: suf ∧ covers ⟨s, e, hp, ct⟩ pc = true ∧ ct ≠ 0 ∧ (∀ q ∈ pre, q.2.2.2 ≠ 0 ∧ ∃ nm, Cond.classLink own q.2.2.2 nm ∈ zT ∧ (C, nm) ∈ zNcL) ∧ Cond.classLink own ct C ∈ zT ∧ Cond.instantiable C 6 ∈ zT ∧ ((∃ f : Fin 4, (f : Nat) = j ∧ ln = 1 ∧ decode cc hp = .ok (.astore_n f, 1)) ∨ (ln = 2 ∧ decode cc hp = .ok (.astore j, 2))) ∧ zok j ls = true ∧ zno j ls = true ∧ Nat.blt j X.2.2.2.2.2.2.2.2.2.2.2.2 = true ∧ K (hp + ln)
theorem zH_in {p : Program} {l : Launch} {e : Env} {R : Room} {s : State} {m : MethodId} {args : Array Value} {below : List Frame} {meth : Method} {c : Code} {Q : State → Prop} {g : zG} {nL : Nat} (F : zF zT zN (p, l, e, R, s, m, args, below, meth, c, Q, g, nL) cc own) (hxt : c.exceptionTable.toList = tableOf hh) {H : Heap} {locs : List Loc} {la : Array Slot} {rest : List Value} {k n : Nat} {C : String} {q : Addr} {ce : Cell} {h' : zH} (hl : lv_has la nL (zpl g ls)) (hP : zP g h' H) (hS : va_S (zA g) s.heap H locs) (hc : H[q]? = some ce) (hv : ce.vm = .none) (hcl : s.vm.findClass C = some ce.cls)
    (D : zHnd (p, l, e, R, s, m, args, below, meth, c, Q, g, nL) cc own hh pc ls C (fun pc2 => Z (p, l, e, R, s, m, args, below, meth, c, Q, g, nL) k n pc2 ls [] h')) : vx_W p l e R s m args below meth c H locs k n Q (F0 m pc la rest) q := by
  obtain ⟨hx, hb, hml, hown, hts, hnw, hK, hO, hg, hlo, htr, hex⟩ := F
  obtain ⟨pre, suf, s0, e0, hp, ct, j, ln, e1, hcov, hct, hpre, hlk, hin, hdj, hok, hno, hj, K⟩ := D
  have hj : j < nL := Nat.le_of_ble_eq_true hj
  refine vx_catch (name := C) hown (tableOf pre) ⟨s0, e0, hp, ct⟩ (tableOf suf) (by rw [hxt, e1]; simp [tableOf]) ?_ hcov hct (hts _ hlk) (zself (hts _ hin)) hc hv hcl ?_
  · intro z hz
    obtain ⟨z0, hz0, rfl⟩ := List.mem_map.mp hz
    obtain ⟨a1, nm, a2, a3⟩ := hpre z0 hz0
    exact Or.inr ⟨a1, nm, hts _ a2, hex.2.2.2.2.2.2.2.2 _ a3⟩
  · rcases hdj with ⟨f, f1, rfl, f2⟩ | ⟨rfl, f2⟩
    · exact lv_astore_n hx hb f2 f1 hl hj rfl (fun la2 hl2 => K la2 H locs (zst0 hl2 hok hno) hP hS)
    · exact lv_astore hx hb f2 hl hj rfl (fun la2 hl2 => K la2 H locs (zst0 hl2 hok hno) hP hS)
theorem z_callVH {y : MethodName} {c2 : ByteArray} {maxL2 np d2 mc2 ms2 index b : Nat} {ret ret2 : Option FieldType} {as rest : List Value} {P2 : Option Value → zH → Prop} {E2 : String → zH → Prop} (F : zF zT zN X cc own) (B : zBH X d mc ms ret P E hh) (C : zCal y c2 maxL2 ret2 np) (M : zMet y c2 maxL2 ret2 d2 mc2 ms2 (.ref b :: as) h P2 E2) (hd : decode cc pc = .ok (.invokevirtual index, 3)) (hst : st = as.reverse ++ .ref b :: rest) (hn : as.length = np) (hre : (rest.map (fun v => v.category)).sum ≤ 8) (hd2 : d2 + 1 ≤ d) (hmc : k + mc2 ≤ mc) (hms : n + ms2 ≤ ms) (hlk : Cond.methodLink own index y ∈ zT) (hin : Cond.instanceMethod y ∈ zT) (hse : Cond.selects y.cls y y ∈ zT) {ci : Nat} {fs : List Value} {r : vw_C} (hcr : h[b]? = some (ci, fs)) (hci : ci < 90) (hcr2 : zCl[ci]? = some r) (hyc : r.1 = y.cls) (K : ∀ v h', P2 v h' → Z X (k + mc2) (n + ms2) (pc + 3) ls (v.toList ++ rest) h') (KX : ∀ C h', E2 C h' → zHnd X cc own hh pc ls C (fun pc2 => Z X (k + mc2) (n + ms2) pc2 ls [] h')) : Z X k n pc ls st h := by
  obtain ⟨p, l, e, R, s, m, args, below, meth, c, Q, g, nL⟩ := X
  have F0' := F
  obtain ⟨hx, hb, hml, hown, hts, hnw, hK, hO, hg, hlo, htr, hex⟩ := F
  obtain ⟨hR, rfl, hr, hxt⟩ := B
  obtain ⟨c1, c3, c4, c5⟩ := C
  subst hR
  refine z_core (mc2 := mc2) (ms2 := ms2) (rest := rest) (P2 := P2) (E2 := E2) (a := ((.ref b :: as).map (zv g)).toArray) (fun la H locs hla hP hS => ?_) K (fun C h' he la H locs q ce hla hP hS hc hv hcl => zH_in F0' hxt hla hP hS hc hv hcl (KX C h' he))
  subst hst
  refine vx_runV (C := r.1) (As := as.map (zv g)) ⟨hx, hb, hml, hown, hts⟩ (M l g htr) ⟨(callB_of np hts (zW_good c1) rfl rfl rfl (hts _ c3) (hts _ hlk) c4 (zRm_ok hd2 c5)), hts _ hin, by rw [hyc]; exact hts _ hse⟩ ⟨zWld_blind, zRecv hP hS hK hO hcr hci hcr2, fun U hU hW => ⟨rfl, zWld_to hK hO hg hnw hex hP hS hU hW⟩⟩ rfl (by rw [List.length_map]; exact hn) hla.1 (by simp [zv]) (by show 2 * 0 + _ ≤ 8; rw [Nat.mul_zero, Nat.zero_add]; exact zrest_ok hre) hd ⟨hmc, hms⟩
def zCalH (y : MethodName) (cc : ByteArray) (maxL : Nat) (ret : Option FieldType) (hh : List (Nat × Nat × Nat × Nat)) (np : Nat) : Prop := Cond.codeWith y cc maxL ret hh ∈ zT ∧ Cond.initialized y.cls ∈ zT ∧ (y.cls ≠ "java/lang/invoke/MethodHandle" ∧ y.cls ≠ "java/lang/invoke/VarHandle" ∧ (parseMethodDescriptor y.desc).map (fun d => d.parameters.length) = some np) ∧ maxL ≤ 41
theorem zcall_good {own : String} {index : Nat} {y : MethodName} {ws : List Cond} (h1 : Cond.methodLink own index y ∈ zT) (h2 : Cond.static y ∈ zT) (h3 : Cond.initialized y.cls ∈ zT) (h : GoodIn zT ws) : GoodIn zT (va_wsS own index y ws) := fun w hw => by
  rcases List.mem_append.mp hw with hw | hw
  · simp only [List.mem_cons, List.not_mem_nil, or_false] at hw
    rcases hw with rfl | rfl | rfl
    · exact ⟨h1, good_of_word (List.mem_filter.mp h1).2⟩
    · exact ⟨h2, good_of_word (List.mem_filter.mp h2).2⟩
    · exact ⟨h3, good_of_word (List.mem_filter.mp h3).2⟩
  · exact h w hw
theorem z_callSH {y : MethodName} {c2 : ByteArray} {maxL2 np d2 mc2 ms2 index : Nat} {ret ret2 : Option FieldType} {as rest : List Value} {P2 : Option Value → zH → Prop} {E2 : String → zH → Prop} (F : zF zT zN X cc own) (B : zB X d mc ms ret P E) {hh2 : List (Nat × Nat × Nat × Nat)} (C : zCalH y c2 maxL2 ret2 hh2 np) (M : zMetH y c2 maxL2 ret2 hh2 d2 mc2 ms2 as h P2 E2) (hd : decode cc pc = .ok (.invokestatic index, 3)) (hst : st = as.reverse ++ rest) (hn : as.length = np) (hre : (rest.map (fun v => v.category)).sum ≤ 8) (hd2 : d2 + 1 ≤ d) (hmc : k + mc2 ≤ mc) (hms : n + ms2 ≤ ms) (hlk : Cond.methodLink own index y ∈ zT) (hstt : Cond.static y ∈ zT) (K : ∀ v h', P2 v h' → Z X (k + mc2) (n + ms2) (pc + 3) ls (v.toList ++ rest) h') (KX : ∀ C h', E2 C h' → E C h') : Z X k n pc ls st h := by
  obtain ⟨p, l, e, R, s, m, args, below, meth, c, Q, g, nL⟩ := X
  have F0' := F
  obtain ⟨hx, hb, hml, hown, hts, hnw, hK, hO, hg, hlo, htr, hex⟩ := F
  obtain ⟨hR, rfl, hr, hxt⟩ := B
  obtain ⟨c1, c3, c4, c5⟩ := C
  subst hR
  refine z_core (mc2 := mc2) (ms2 := ms2) (rest := rest) (P2 := P2) (E2 := E2) (a := (as.map (zv g)).toArray) (fun la H locs hla hP hS => ?_) K (fun C h' he la H locs q ce hla hP hS hc hv hcl => zX_out hxt hlo (KX C h' he) hP hS hc hv hcl hmc hms)
  subst hst
  refine vx_runSX (As := as.map (zv g)) ⟨hx, hb, hml, hown, hts⟩ (M l g htr) (vx_cwSW np hts (zcall_good hlk hstt c3 (zWH_good c1)) rfl rfl rfl c4 (zRm_ok hd2 c5)) ⟨zWld_blind, fun U hU hW => ⟨rfl, zWld_to hK hO hg hnw hex hP hS hU hW⟩⟩ rfl (by rw [List.length_map]; exact hn) hla.1 (by simp [zv]) (by show 2 * 0 + _ ≤ 8; rw [Nat.mul_zero, Nat.zero_add]; exact zrest_ok hre) hd ⟨hmc, hms⟩
end ZHR
