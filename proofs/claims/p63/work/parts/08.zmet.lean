/-! contracts of the Z layer, and calls -/
/-- the words that a method's contract asks for: those of the tables that stay true whatever happens -/
def zT : List Cond := lw_tbl.filter goodWord
def zN : List Cond := lw_tbl.filter zNok
theorem zT_i {w : Cond} (i : Nat) (h : lw_tbl[i]? = some w) (hg : goodWord w = true) : w ∈ zT := List.mem_filter.mpr ⟨List.mem_of_getElem? h, hg⟩
theorem zN_i {w : Cond} (i : Nat) (h : lw_tbl[i]? = some w) (hg : zNok w = true) : w ∈ zN := List.mem_filter.mpr ⟨List.mem_of_getElem? h, hg⟩
def zW (y : MethodName) (cc : ByteArray) (maxL : Nat) (ret : Option FieldType) : List Cond := .code y cc maxL ret :: zT
theorem zW_good {y : MethodName} {cc : ByteArray} {maxL : Nat} {ret : Option FieldType} (h : Cond.code y cc maxL ret ∈ zT) : GoodIn zT (zW y cc maxL ret) := fun w hw => by
  have h1 : w ∈ zT := by
    rcases List.mem_cons.mp hw with e | e
    · rw [e]; exact h
    · exact e
  exact ⟨h1, good_of_word (List.mem_filter.mp h1).2⟩
def zRm (d mc ms : Nat) : Room := { frames := d, cells := mc, slots := ms, locals := 60 * d }
/-- the world of a method: the heap holds h, the classes and arrays are as the tables have them, what is never written stands -/
def zWld (g : zG) (h : zH) (U : State) : Prop := zP g h U.heap ∧ va_K g.2.2.2.1 zCl (zTys g) U ∧ zRO g U U.heap ∧ g.1 ≤ U.heap.size ∧ (∀ w ∈ zN, va_Nw w U) ∧ zEx zStr zSt g U U.heap
def zQ (g : zG) (P : Option Value → zH → Prop) : Array Value → State → Outcome → State → Prop := fun _ st oc t => (∃ (v : Option Value) (h : zH), oc = .returned (v.map (zv g)) ∧ P v h ∧ zP g h t.heap) ∧ va_F (zA g) st t
def zXC (g : zG) (E : String → zH → Prop) : String → State → State → Prop := fun C st t => ∃ h : zH, E C h ∧ zP g h t.heap ∧ va_F (zA g) st t
/-- THE CONTRACT: called with these arguments over this heap the method returns v over h' with P v h', or throws an object of class C over h' with E C h'; at most d frames deep, mc cells of ms slots are made -/
def zMet (y : MethodName) (cc : ByteArray) (maxL : Nat) (ret : Option FieldType) (d mc ms : Nat) (as : List Value) (h : zH) (P : Option Value → zH → Prop) (E : String → zH → Prop) : Prop :=
  ∀ (l : Launch) (g : zG), l.stackTraces = false → vx_Met l y (zW y cc maxL ret) (zRm d mc ms) (va_Pc (as.map (zv g)) (zWld g h)) (zQ g P) (zXC g E) mc ms (zA g)
/-- what is known of a frame besides zF -/
def zB (X : zX) (d mc ms : Nat) (ret : Option FieldType) (P : Option Value → zH → Prop) (E : String → zH → Prop) : Prop := match X with
  | (p, l, e, R, s, m, args, below, meth, c, Q, g, nL) => R = zRm d mc ms ∧ Q = vx_MQ below (zQ g P) (zXC g E) args s mc ms (zA g) ∧ meth.sig.returnType = ret ∧ (∀ x ∈ c.exceptionTable.toList, False)
theorem zWld_blind {g : zG} {as : List Value} {h : zH} : FrameBlind (va_Pc (as.map (zv g)) (zWld g h)) := by
  intro a U f mk q
  obtain ⟨q0, q1, q2, q3, q4, q5, q6⟩ := q
  have hW : U.WarmedH (U.calling f mk a).vm := State.WarmedH.refl U
  exact ⟨q0, q1, va_K.moved (u := U) (U := U.calling f mk a) (Vm.Alike.refl U.vm) q2, zRO.moved (u := U) (U := U.calling f mk a) (Vm.Alike.refl U.vm) q3, q4, fun w hw => va_Nw.same (by
    have h9 := (List.mem_filter.mp hw).2
    cases w <;> first | rfl | (simp [zNok] at h9)) (u := U) (U := U.calling f mk a) rfl (q5 w hw), zEx.warm (s := U) (U := U.calling f mk a) hW q6 (fun _ _ _ => rfl)⟩
theorem zWld_to {g : zG} {s U : State} {h : zH} {H : Heap} {locs : List Loc} (hK : va_K g.2.2.2.1 zCl (zTys g) s) (hO : zRO g s s.heap) (hg : g.1 ≤ s.heap.size) (hn : ∀ w ∈ zN, va_Nw w s) (hx : zEx zStr zSt g s s.heap) (hP : zP g h H) (hS : va_S (zA g) s.heap H locs) (hU : U.heap = H) (hW : s.WarmedH U.vm) : zWld g h U := by
  subst hU
  exact ⟨hP, va_K.moved hW.alike hK, (zRO.moved hW.alike hO).kept hS.2.1, Nat.le_trans hg hS.1, fun w hw => zNok_warm (List.mem_filter.mp hw).2 hW (hn w hw), zEx.warm hW hx hS.2.1⟩
theorem zargs_map (g : zG) : ∀ (vs : List Value) (i : Nat), lv_args i (vs.map (zv g)) = (lv_args i vs).map (fun q => (q.1, zv g q.2))
  | [], i => rfl
  | v :: vs, i => by
    simp only [List.map_cons, lv_args]
    rw [zv_cat, zargs_map g vs]
theorem lv_args_ge : ∀ (vs : List Value) (i : Nat) (q : Nat × Value), q ∈ lv_args i vs → i ≤ q.1
  | [], i, q, h => by simp [lv_args] at h
  | v :: vs, i, q, h => by
    simp only [lv_args] at h
    rcases List.mem_cons.mp h with h | h
    · rw [h]; exact Nat.le_refl _
    · have := lv_args_ge vs _ q h
      split at this <;> omega
theorem zpl_args (g : zG) : ∀ (vs : List Value) (i : Nat), zpl g (lv_args i vs) = (lv_args i vs).map (fun q => (q.1, zv g q.2))
  | [], i => rfl
  | v :: vs, i => by
    simp only [lv_args, zpl, List.map_cons]
    rw [zpl_args g vs]
    congr 1
    refine List.filter_eq_self.mpr fun q hq => ?_
    obtain ⟨q2, h2, rfl⟩ := List.mem_map.mp hq
    have := lv_args_ge vs _ q2 h2
    simp only [Bool.not_eq_true', beq_eq_false_iff_ne]
    split at this <;> omega
/-- a method's start -/
theorem zMet.of {y : MethodName} {cc : ByteArray} {maxL : Nat} {ret : Option FieldType} {d mc ms : Nat} {as : List Value} {h : zH} {P : Option Value → zH → Prop} {E : String → zH → Prop} (hy : plainName y.cls = true) (hsl : (lg_sl as).length ≤ maxL)
    (body : ∀ X : zX, zF zT zN X cc y.cls → zB X d mc ms ret P E → X.2.2.2.2.2.2.2.2.1.name = y.name → X.2.2.2.2.2.2.2.2.2.2.2.2 = maxL → X.2.2.2.1 = zRm d mc ms → Z X 0 0 0 (lv_args 0 as) [] h) : zMet y cc maxL ret d mc ms as h P E := by
  intro l g htr
  refine vx_ofW (cc := cc) (maxL := maxL) (ret := ret) (ws' := zT) hy rfl ?_
  intro p e s m args below meth c s₁ B hml hxt hv
  obtain ⟨rfl, hP, hK, hO, hg, hn, hx⟩ := hv
  have hts := atoms_spec (ws := zW y cc maxL ret) B.pre
  have hown : s.vm.findClass y.cls = some m.cls := findClass_of_methodNamed B.named
  have hF : zF zT zN (p, l, e, zRm d mc ms, s, m, (as.map (zv g)).toArray, below, meth, c, vx_MQ below (zQ g P) (zXC g E) (as.map (zv g)).toArray s mc ms (zA g), g, maxL) cc y.cls :=
    ⟨B.exec, B.bytes, hml, hown, fun w hw => hts w (List.mem_cons_of_mem _ hw), hn, hK, hO, hg, B.notSynchronized, htr, hx⟩
  have hbody := body _ hF ⟨rfl, rfl, B.returns, hxt⟩ (name_of_methodNamed B.named B.method).1 rfl rfl
  have hsl2 : (lg_sl (as.map (zv g))).length ≤ maxL := by
    have e9 : ∀ vs : List Value, (lg_sl (vs.map (zv g))).length = (lg_sl vs).length := by
      intro vs
      induction vs with
      | nil => rfl
      | cons v vs ih => cases v <;> simp [lg_sl, zv, Value.category] at ih ⊢ <;> omega
    rw [e9]; exact hsl
  have hl := lv_entry (as.map (zv g)) (n := maxL) hsl2
  rw [lg_entry_eq]
  exact hbody _ _ _ (by rw [zpl_args, ← zargs_map]; exact hl) hP va_S.rf
