/-! THE Z LAYER. An abstract heap is a list of cells: kind and values. Kind k < 100: an object of class k of zCl; 100 + t: an array of zTy's t. Addresses: places in the list. The first g.ro.length cells stand before the start and are never written. -/
abbrev zC : Type := Nat × List Value
abbrev zH : Type := List zC
abbrev zL : Type := List (Nat × Value)
/-- (size of the heap at the law's start, addresses of the cells that are never written, those cells, the classes' numbers, the arrays' classes) -/
abbrev zG : Type := Nat × (Nat → Nat) × zH × va_G × (Nat → ClassId)
abbrev zCl : List vw_C := vwCl
def zTy : List FieldType := [.int, .long, .boolean, .char, .byte, .object "BeamChart$Light", .object "BeamChart$Ship", .object "BeamChart$Coast", .object "BeamChart$Command", .object "BeamChart$CommandKind", .object "java/lang/String", .double, .array .int, .short]
def zq (g : zG) (a : Nat) : Nat := if a < g.2.2.1.length then g.2.1 a else g.1 + (a - g.2.2.1.length)
def zv (g : zG) (v : Value) : Value := match v with
  | .ref a => .ref (zq g a)
  | .int x => .int x
  | .long x => .long x
  | .float x => .float x
  | .double x => .double x
  | .null => .null
  | .retAddr x => .retAddr x
def zA (g : zG) : Nat → Prop := fun q => g.1 ≤ q
def zi (v : Value) : Int32 := match v with
  | .int x => x
  | _ => 0
def zl (v : Value) : Int64 := match v with
  | .long x => x
  | _ => 0
def zd (v : Value) : UInt64 := match v with
  | .double x => x
  | _ => 0
def zo (g : zG) (v : Value) : Option Nat := match v with
  | .ref a => some (zq g a)
  | _ => none
/-- a value that an array of this type may hold -/
def zel (ty : FieldType) (v : Value) : Bool := match ty, v with
  | .long, .long _ => true
  | .double, .double _ => true
  | .object _, .ref _ => true
  | .object _, .null => true
  | .array _, .ref _ => true
  | .array _, .null => true
  | .int, .int _ => true
  | .byte, .int _ => true
  | .char, .int _ => true
  | .short, .int _ => true
  | .boolean, .int _ => true
  | _, _ => false
def zAr (g : zG) (ty : FieldType) (vs : List Value) : vp_A := (vs.length, match ty with
  | .long => .inr (.inl (fun j => zl (vs.getD j .null)))
  | .double => .inr (.inr (.inr (.inl (fun j => zd (vs.getD j .null)))))
  | .object _ => .inr (.inr (.inr (.inr (fun j => zo g (vs.getD j .null)))))
  | .array _ => .inr (.inr (.inr (.inr (fun j => zo g (vs.getD j .null)))))
  | _ => .inl (fun j => zi (vs.getD j .null)))
def zE (g : zG) (c : zC) : va_E := if c.1 < 100 then .inr (c.1, c.2.map (zv g)) else .inl (g.2.2.2.2 (c.1 - 100), zAr g (zTy.getD (c.1 - 100) .int) c.2)
def zTys (g : zG) : List (ClassId × FieldType) := (List.range 9).map (fun t => (g.2.2.2.2 t, zTy.getD t .int))
/-- the heap H holds h; a cell of kind 98 is one of which nothing is known -/
def zP (g : zG) (h : zH) (H : Heap) : Prop := ∃ hm : zH, h = g.2.2.1 ++ hm ∧ (∀ (k : Nat) (c : zC), hm[k]? = some c → c.1 ≠ 98 → va_at g.2.2.2.1 zCl (g.1 + k, zE g c) H) ∧ H.size = g.1 + hm.length
/-- a cell that is never written -/
def zRoAt (g : zG) (a : Nat) (c : zC) (U : State) (H : Heap) : Prop :=
  (100 ≤ c.1 → va_T (zTy.getD (c.1 - 100) .int) (g.2.1 a) c.2.length (fun j => zv g (c.2.getD j .null)) (zA g) U H) ∧
  (c.1 < 90 → ∃ r : vw_C, zCl[c.1]? = some r ∧ va_O r.1 (g.2.1 a) (zA g) U H ∧ ∀ k v, k < r.2.2 → c.2[k]? = some v → va_OF (r.2.1 k).1 (r.2.1 k).2.1 (r.2.1 k).2.2.1 (zv g v) (g.2.1 a) (zA g) U H)
def zRO (g : zG) (U : State) (H : Heap) : Prop := ∀ (a : Nat) (c : zC), g.2.2.1[a]? = some c → zRoAt g a c U H
theorem zRO.moved {g : zG} {u U : State} {H : Heap} (hvm : u.vm.Alike U.vm) (h : zRO g u H) : zRO g U H := fun a c hc => ⟨fun h1 => va_T.moved hvm ((h a c hc).1 h1), fun h1 => by
  obtain ⟨r, e1, e2, e3⟩ := (h a c hc).2 h1
  exact ⟨r, e1, va_O.moved hvm e2, fun k v hk hv => va_OF.moved hvm (e3 k v hk hv)⟩⟩
theorem zRO.kept {g : zG} {U : State} {H H1 : Heap} (h : zRO g U H) (hq : ∀ a : Nat, a < H.size → ¬ zA g a → H1[a]? = H[a]?) : zRO g U H1 := fun a c hc => ⟨fun h1 => ((h a c hc).1 h1).kept hq, fun h1 => by
  obtain ⟨r, e1, e2, e3⟩ := (h a c hc).2 h1
  exact ⟨r, e1, e2.kept hq, fun k v hk hv => (e3 k v hk hv).kept hq⟩⟩
/-- a mutable cell of the abstract heap, by its place -/
theorem zP_at {g : zG} {h : zH} {H : Heap} {a : Nat} {c : zC} (hP : zP g h H) (hc : h[a]? = some c) (ha : g.2.2.1.length ≤ a) (hj : c.1 ≠ 98) : va_at g.2.2.2.1 zCl (zq g a, zE g c) H := by
  obtain ⟨hm, e, h1, h2⟩ := hP
  subst e
  rw [List.getElem?_append_right ha] at hc
  have hz : zq g a = g.1 + (a - g.2.2.1.length) := by unfold zq; rw [if_neg (Nat.not_lt.mpr ha)]
  rw [hz]
  exact h1 _ c hc hj
theorem zq_mut {g : zG} {a : Nat} (ha : g.2.2.1.length ≤ a) : zq g a = g.1 + (a - g.2.2.1.length) := by unfold zq; rw [if_neg (Nat.not_lt.mpr ha)]
/-- writing a mutable cell -/
theorem zP_put {g : zG} {h : zH} {H H1 : Heap} {a : Nat} {c c0 : zC} (hP : zP g h H) (hc : h[a]? = some c0) (ha : g.2.2.1.length ≤ a) (he : va_at g.2.2.2.1 zCl (zq g a, zE g c) H1) (z : H1.size = H.size) (oq : ∀ q : Nat, q ≠ zq g a → H1[q]? = H[q]?) : zP g (h.set a c) H1 := by
  obtain ⟨hm, e, h1, h2⟩ := hP
  subst e
  refine ⟨hm.set (a - g.2.2.1.length) c, List.set_append_right _ _ ha, fun k x hk hj => ?_, by rw [z, h2, List.length_set]⟩
  rw [zq_mut ha] at he oq
  by_cases hka : k = a - g.2.2.1.length
  · subst hka
    rw [List.getElem?_append_right ha] at hc
    rw [List.getElem?_set_self (List.getElem?_eq_some_iff.mp hc).1] at hk
    cases hk
    exact he
  · rw [List.getElem?_set_ne (Ne.symm hka)] at hk
    exact (h1 k x hk hj).kept (oq _ (fun q => hka (by show k = _; have : g.1 + k = g.1 + (a - g.2.2.1.length) := q; omega)))
theorem zS_put {g : zG} {H0 H H1 : Heap} {locs : List Loc} {a k : Nat} (hS : va_S (zA g) H0 H locs) (ha : g.2.2.1.length ≤ a) (z : H1.size = H.size) (oq : ∀ q : Nat, q ≠ zq g a → H1[q]? = H[q]?) : va_S (zA g) H0 H1 (locs ++ [⟨zq g a, k⟩]) := hS.put z oq (by show g.1 ≤ zq g a; rw [zq_mut ha]; omega)
theorem zP_push {g : zG} {h : zH} {H H1 : Heap} {c : zC} (hP : zP g h H) (he : c.1 ≠ 98 → va_at g.2.2.2.1 zCl (H.size, zE g c) H1) (z : H1.size = H.size + 1) (o : ∀ q : Nat, q < H.size → H1[q]? = H[q]?) : zP g (h ++ [c]) H1 := by
  obtain ⟨hm, e, h1, h2⟩ := hP
  subst e
  refine ⟨hm ++ [c], by rw [List.append_assoc], fun k x hk hj => ?_, by rw [z, h2, List.length_append]; rfl⟩
  by_cases hl : k < hm.length
  · rw [List.getElem?_append_left hl] at hk
    exact (h1 k x hk hj).kept (o _ (by show g.1 + k < _; omega))
  · rw [List.getElem?_append_right (by omega)] at hk
    have hz : k - hm.length < 1 := (List.getElem?_eq_some_iff.mp hk).1
    have hk0 : k = hm.length := by omega
    subst hk0
    rw [Nat.sub_self] at hk
    cases hk
    rw [← h2]
    exact he hj
/-- cells that somebody made, of which nothing is known -/
theorem zP_junk {g : zG} {h : zH} {H H1 : Heap} (hP : zP g h H) (z : H.size ≤ H1.size) (o : ∀ q : Nat, q < H.size → H1[q]? = H[q]?) : zP g (h ++ List.replicate (H1.size - H.size) (98, [])) H1 := by
  obtain ⟨hm, e, h1, h2⟩ := hP
  subst e
  refine ⟨hm ++ List.replicate (H1.size - H.size) (98, []), by rw [List.append_assoc], fun k x hk hj => ?_, by rw [List.length_append, List.length_replicate]; omega⟩
  by_cases hl : k < hm.length
  · rw [List.getElem?_append_left hl] at hk
    exact (h1 k x hk hj).kept (o _ (by show g.1 + k < _; omega))
  · rw [List.getElem?_append_right (by omega), List.getElem?_replicate] at hk
    split at hk
    · cases hk; exact absurd rfl hj
    · cases hk
theorem zS_push {g : zG} {H0 H H1 : Heap} {locs : List Loc} (hS : va_S (zA g) H0 H locs) (z : H.size ≤ H1.size) (o : ∀ q : Nat, q < H.size → H1[q]? = H[q]?) : va_S (zA g) H0 H1 locs :=
  ⟨Nat.le_trans hS.1 z, fun x h1 h2 => (o x (Nat.lt_of_lt_of_le h1 hS.1)).trans (hS.2.1 x h1 h2), hS.2.2⟩
theorem zq_len {g : zG} {h : zH} {H : Heap} (hP : zP g h H) : zq g h.length = H.size := by
  obtain ⟨hm, e, h1, h2⟩ := hP
  subst e
  unfold zq
  rw [List.length_append, if_neg (by omega), h2]
  omega
/-- what else of the start is used: arrays' classes, texts, statics -/
def zAOs : List String := ["BeamChart$Light", "BeamChart$Ship", "BeamChart$Coast", "BeamChart$Command"]
def zEx (zStr : List (String × Nat × String)) (zSt : List (String × String × String × Value)) (g : zG) (U : State) (H : Heap) : Prop := g.2.2.1.length = zNR ∧ (∀ C ∈ zAOs, va_AO C U) ∧ (∀ q ∈ zStr, ∃ sa : Nat, vk_R q.1 q.2.1 q.2.2 sa U) ∧ (∀ q ∈ zSt, va_Z q.1 q.2.1 q.2.2.1 (zv g q.2.2.2) (zA g) U H ∨ (q.2.2.2 = .ref 98 ∧ va_Z q.1 q.2.1 q.2.2.1 .null (zA g) U H)) ∧ vx_Zq Bundle.tN "UNASSIGNED_STACK" Bundle.steD (zA g) U H ∧ vx_Zq Bundle.tN "SUPPRESSED_SENTINEL" Bundle.listD (zA g) U H ∧ (∀ q ∈ zRf, va_OF q.1 q.2.1 q.2.2.1 (zv g q.2.2.2.1) (zq g q.2.2.2.2) (zA g) U H) ∧ (∀ q ∈ zRoO, va_O q.1 (zq g q.2) (zA g) U H) ∧ ∀ q ∈ zNcL, va_Nc q.1 q.2 U
theorem zEx.warm {zStr : List (String × Nat × String)} {zSt : List (String × String × String × Value)} {g : zG} {s U : State} {H H1 : Heap} (hW : s.WarmedH U.vm) (h : zEx zStr zSt g s H) (hq : ∀ a : Nat, a < H.size → ¬ zA g a → H1[a]? = H[a]?) : zEx zStr zSt g U H1 := by
  obtain ⟨h0, h1, h2, h3, h4, h5, h6, h7, h8⟩ := h
  exact ⟨h0, fun C hC => va_AO.moved hW.alike (h1 C hC), fun q hq2 => (h2 q hq2).elim fun sa h => ⟨sa, h.warm hW⟩, fun q hq2 => (h3 q hq2).imp (fun h => (va_Z.moved hW.alike h).kept hq) (fun h => ⟨h.1, (va_Z.moved hW.alike h.2).kept hq⟩), (vx_Zq.moved hW.alike h4).kept hq, (vx_Zq.moved hW.alike h5).kept hq, fun q hq2 => (va_OF.moved hW.alike (h6 q hq2)).kept hq, fun q hq2 => (va_O.moved hW.alike (h7 q hq2)).kept hq, fun q hq2 => va_Nc.moved hW.alike (h8 q hq2)⟩
/-- the words that a nest's links and casts give: true in any later state -/
def zNok (w : Cond) : Bool := match w with
  | .fieldLinkNest .. => true
  | .methodLinkNest .. => true
  | .castable .. => true
  | .declares .. => true
  | _ => false
theorem zNok_warm {w : Cond} {s U : State} (hw : zNok w = true) (hW : s.WarmedH U.vm) (h : va_Nw w s) : va_Nw w U := by
  cases w <;> first | (simp [zNok] at hw; done) | exact h.warmF hW | exact h.warmM hW | exact h.warmC hW | exact h.warmD hW
