/-! THE Z LAYER. An abstract heap is a list of cells: kind and values. Kind k < 100: an object of class k of zCl; 100 + t: an array of zTy's t. Addresses: places in the list. The first g.ro.length cells stand before the start and are never written. -/
abbrev zC : Type := Nat × List Value
abbrev zH : Type := List zC
abbrev zL : Type := List (Nat × Value)
/-- (size of the heap at the law's start, addresses of the cells that are never written, those cells, the classes' numbers, the arrays' classes) -/
abbrev zG : Type := Nat × (Nat → Nat) × zH × va_G × (Nat → ClassId)
abbrev zCl : List vw_C := vwCl
def zTy : List FieldType := [.int, .long, .boolean, .char, .byte, .object "BeamChart$Light", .object "BeamChart$Ship", .object "BeamChart$Coast", .object "BeamChart$Command", .object "BeamChart$CommandKind", .object "java/lang/String", .double, .array .int, .short]
def zq (g : zG) (a : Nat) : Nat := if a < g.2.2.1.length then g.2.1 a else g.1 + (a - g.2.2.1.length)
def zv (g : zG) (v : Value) : Value := match v with
  | .ref a => .ref (zq g a)
  | .int x => .int x
  | .long x => .long x
  | .float x => .float x
  | .double x => .double x
  | .null => .null
  | .retAddr x => .retAddr x
def zA (g : zG) : Nat → Prop := fun q => g.1 ≤ q
def zi (v : Value) : Int32 := match v with
  | .int x => x
  | _ => 0
def zl (v : Value) : Int64 := match v with
  | .long x => x
  | _ => 0
def zd (v : Value) : UInt64 := match v with
  | .double x => x
  | _ => 0
def zo (g : zG) (v : Value) : Option Nat := match v with
  | .ref a => some (zq g a)
  | _ => none
/-- a value that an array of this type may hold -/
def zel (ty : FieldType) (v : Value) : Bool := match ty, v with
  | .long, .long _ => true
  | .double, .double _ => true
  | .object _, .ref _ => true
  | .object _, .null => true
  | .array _, .ref _ => true
  | .array _, .null => true
  | .int, .int _ => true
  | .byte, .int _ => true
  | .char, .int _ => true
  | .short, .int _ => true
  | .boolean, .int _ => true
  | _, _ => false
def zAr (g : zG) (ty : FieldType) (vs : List Value) : vp_A := (vs.length, match ty with
  | .long => .inr (.inl (fun j => zl (vs.getD j .null)))
  | .double => .inr (.inr (.inr (.inl (fun j => zd (vs.getD j .null)))))
  | .object _ => .inr (.inr (.inr (.inr (fun j => zo g (vs.getD j .null)))))
  | .array _ => .inr (.inr (.inr (.inr (fun j => zo g (vs.getD j .null)))))
  | _ => .inl (fun j => zi (vs.getD j .null)))
def zE (g : zG) (c : zC) : va_E := if c.1 < 100 then .inr (c.1, c.2.map (zv g)) else .inl (g.2.2.2.2 (c.1 - 100), zAr g (zTy.getD (c.1 - 100) .int) c.2)
def zws (g : zG) : Nat → zH → va_W
  | _, [] => []
  | i, c :: h => (g.1 + i, zE g c) :: zws g (i + 1) h
def zTys (g : zG) : List (ClassId × FieldType) := (List.range zTy.length).map (fun t => (g.2.2.2.2 t, zTy.getD t .int))
theorem zws_get (g : zG) : ∀ (h : zH) (i k : Nat), (zws g i h)[k]? = (h[k]?).map (fun c => (g.1 + (i + k), zE g c))
  | [], i, k => by simp [zws]
  | c :: h, i, 0 => by simp [zws]
  | c :: h, i, k + 1 => by
    simp only [zws, List.getElem?_cons_succ]
    rw [zws_get g h (i + 1) k, show i + 1 + k = i + (k + 1) by omega]
theorem zws_set (g : zG) : ∀ (h : zH) (i k : Nat) (c : zC), (zws g i h).set k (g.1 + (i + k), zE g c) = zws g i (h.set k c)
  | [], i, k, c => by simp [zws]
  | d :: h, i, 0, c => by simp [zws]
  | d :: h, i, k + 1, c => by
    simp only [zws, List.set_cons_succ]
    rw [← zws_set g h (i + 1) k c, show i + 1 + k = i + (k + 1) by omega]
theorem zws_app (g : zG) : ∀ (h : zH) (i : Nat) (c : zC), zws g i (h ++ [c]) = zws g i h ++ [(g.1 + (i + h.length), zE g c)]
  | [], i, c => by simp [zws]
  | d :: h, i, c => by
    simp only [zws, List.cons_append]
    rw [zws_app g h (i + 1) c, show i + 1 + h.length = i + (d :: h).length by simp; omega]
theorem zws_len (g : zG) : ∀ (h : zH) (i : Nat), (zws g i h).length = h.length
  | [], i => rfl
  | d :: h, i => by simp [zws, zws_len g h (i + 1)]
theorem zD_ok (g : zG) (h : zH) : va_D (zA g) (zws g 0 h) := by
  refine ⟨fun i j p q hi hj e => ?_, fun k q hk => ?_⟩
  · rw [zws_get] at hi hj
    obtain ⟨c1, -, e1⟩ := Option.map_eq_some_iff.mp hi
    obtain ⟨c2, -, e2⟩ := Option.map_eq_some_iff.mp hj
    rw [← e1, ← e2] at e
    simp at e
    omega
  · rw [zws_get] at hk
    obtain ⟨c1, -, e1⟩ := Option.map_eq_some_iff.mp hk
    rw [← e1]
    show g.1 ≤ g.1 + _
    omega
/-- the heap H holds h -/
def zP (g : zG) (h : zH) (H : Heap) : Prop := ∃ hm : zH, h = g.2.2.1 ++ hm ∧ va_P g.2.2.2.1 zCl (zws g 0 hm) H ∧ H.size = g.1 + hm.length
/-- a cell that is never written -/
def zRoAt (g : zG) (a : Nat) (c : zC) (U : State) (H : Heap) : Prop :=
  (100 ≤ c.1 → va_T (zTy.getD (c.1 - 100) .int) (g.2.1 a) c.2.length (fun j => zv g (c.2.getD j .null)) (zA g) U H) ∧
  (c.1 < 100 → ∃ r : vw_C, zCl[c.1]? = some r ∧ va_O r.1 (g.2.1 a) (zA g) U H ∧ ∀ k v, k < r.2.2 → c.2[k]? = some v → va_OF (r.2.1 k).1 (r.2.1 k).2.1 (r.2.1 k).2.2.1 (zv g v) (g.2.1 a) (zA g) U H)
def zRO (g : zG) (U : State) (H : Heap) : Prop := ∀ (a : Nat) (c : zC), g.2.2.1[a]? = some c → zRoAt g a c U H
theorem zRO.moved {g : zG} {u U : State} {H : Heap} (hvm : u.vm.Alike U.vm) (h : zRO g u H) : zRO g U H := fun a c hc => ⟨fun h1 => va_T.moved hvm ((h a c hc).1 h1), fun h1 => by
  obtain ⟨r, e1, e2, e3⟩ := (h a c hc).2 h1
  exact ⟨r, e1, va_O.moved hvm e2, fun k v hk hv => va_OF.moved hvm (e3 k v hk hv)⟩⟩
theorem zRO.kept {g : zG} {U : State} {H H1 : Heap} (h : zRO g U H) (hq : ∀ a : Nat, a < H.size → ¬ zA g a → H1[a]? = H[a]?) : zRO g U H1 := fun a c hc => ⟨fun h1 => ((h a c hc).1 h1).kept hq, fun h1 => by
  obtain ⟨r, e1, e2, e3⟩ := (h a c hc).2 h1
  exact ⟨r, e1, e2.kept hq, fun k v hk hv => (e3 k v hk hv).kept hq⟩⟩
/-- a mutable cell of the abstract heap, by its place -/
theorem zP_at {g : zG} {h : zH} {H : Heap} {a : Nat} {c : zC} (hP : zP g h H) (hc : h[a]? = some c) (ha : g.2.2.1.length ≤ a) : ∃ hm : zH, h = g.2.2.1 ++ hm ∧ va_P g.2.2.2.1 zCl (zws g 0 hm) H ∧ H.size = g.1 + hm.length ∧ hm[a - g.2.2.1.length]? = some c ∧ (zws g 0 hm)[a - g.2.2.1.length]? = some (zq g a, zE g c) := by
  obtain ⟨hm, e, h1, h2⟩ := hP
  subst e
  rw [List.getElem?_append_right ha] at hc
  refine ⟨hm, rfl, h1, h2, hc, ?_⟩
  rw [zws_get, hc]
  simp [zq, Nat.not_lt.mpr ha]
/-- writing a mutable cell -/
theorem zP_set {g : zG} {h : zH} {H1 : Heap} {hm : zH} {a : Nat} {c : zC} (e : h = g.2.2.1 ++ hm) (ha : g.2.2.1.length ≤ a) (h1 : va_P g.2.2.2.1 zCl ((zws g 0 hm).set (a - g.2.2.1.length) (zq g a, zE g c)) H1) (h2 : H1.size = g.1 + hm.length) : zP g (h.set a c) H1 := by
  subst e
  refine ⟨hm.set (a - g.2.2.1.length) c, ?_, ?_, by simpa using h2⟩
  · rw [List.set_append_right _ _ ha]
  · have hz : zq g a = g.1 + (0 + (a - g.2.2.1.length)) := by simp [zq, Nat.not_lt.mpr ha]
    rw [hz] at h1
    rw [← zws_set]
    exact h1
/-- what else of the start is used: arrays' classes, texts, statics -/
def zAOs : List String := ["BeamChart$Light", "BeamChart$Ship", "BeamChart$Coast", "BeamChart$Command"]
def zEx (zStr : List (String × Nat × String)) (zSt : List (String × String × String × Value)) (g : zG) (U : State) (H : Heap) : Prop := (∀ C ∈ zAOs, va_AO C U) ∧ (∀ q ∈ zStr, ∃ sa : Nat, vk_R q.1 q.2.1 q.2.2 sa U) ∧ (∀ q ∈ zSt, va_Z q.1 q.2.1 q.2.2.1 (zv g q.2.2.2) (zA g) U H) ∧ vx_Zq Bundle.tN "UNASSIGNED_STACK" Bundle.steD (zA g) U H ∧ vx_Zq Bundle.tN "SUPPRESSED_SENTINEL" Bundle.listD (zA g) U H
theorem zEx.warm {zStr : List (String × Nat × String)} {zSt : List (String × String × String × Value)} {g : zG} {s U : State} {H H1 : Heap} (hW : s.WarmedH U.vm) (h : zEx zStr zSt g s H) (hq : ∀ a : Nat, a < H.size → ¬ zA g a → H1[a]? = H[a]?) : zEx zStr zSt g U H1 := by
  obtain ⟨h1, h2, h3, h4, h5⟩ := h
  exact ⟨fun C hC => va_AO.moved hW.alike (h1 C hC), fun q hq2 => (h2 q hq2).elim fun sa h => ⟨sa, h.warm hW⟩, fun q hq2 => (va_Z.moved hW.alike (h3 q hq2)).kept hq, (vx_Zq.moved hW.alike h4).kept hq, (vx_Zq.moved hW.alike h5).kept hq⟩
/-- the words that a nest's links and casts give: true in any later state -/
def zNok (w : Cond) : Bool := match w with
  | .fieldLinkNest .. => true
  | .methodLinkNest .. => true
  | .castable .. => true
  | _ => false
theorem zNok_warm {w : Cond} {s U : State} (hw : zNok w = true) (hW : s.WarmedH U.vm) (h : va_Nw w s) : va_Nw w U := by
  cases w <;> first | (simp [zNok] at hw; done) | exact h.warmF hW | exact h.warmM hW | exact h.warmC hW
