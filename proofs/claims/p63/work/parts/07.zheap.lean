/-! rows of the Z layer that read and write the heap -/
theorem zP_ro {g : zG} {h : zH} {H : Heap} {a : Nat} {c : zC} (hP : zP g h H) (hc : h[a]? = some c) (ha : a < g.2.2.1.length) : g.2.2.1[a]? = some c := by
  obtain ⟨hm, e, -, -⟩ := hP
  subst e
  rwa [List.getElem?_append_left ha] at hc
def zAf (g : zG) (ty : FieldType) (vs : List Value) (j : Nat) : Value := match ty with
  | .long => .long (zl (vs.getD j .null))
  | .double => .double (zd (vs.getD j .null))
  | .object _ => va_rf (zo g (vs.getD j .null))
  | .array _ => va_rf (zo g (vs.getD j .null))
  | _ => .int (zi (vs.getD j .null))
theorem zAr_cell (g : zG) (cA : ClassId) (ty : FieldType) (vs : List Value) : vp_cell cA (zAr g ty vs) = arrV cA vs.length (zAf g ty vs) := by cases ty <;> rfl
theorem zAf_el (g : zG) (ty : FieldType) {vs : List Value} {j : Nat} {v : Value} (h : vs[j]? = some v) (he : zel ty v = true) : zAf g ty vs j = zv g v := by
  have e : vs.getD j .null = v := by rw [List.getD_eq_getElem?_getD, h]; rfl
  unfold zAf
  rw [e]
  cases ty <;> cases v <;> first | rfl | (simp [zel] at he)
theorem zTys_get (g : zG) {t : Nat} (ht : t < 9) : (zTys g)[t]? = some (g.2.2.2.2 t, zTy.getD t .int) := by
  unfold zTys
  rw [List.getElem?_map, List.getElem?_range ht]
  rfl
/-- an array, written or not, as the machine sees it -/
theorem zArrAt {g : zG} {h : zH} {s : State} {H : Heap} {locs : List Loc} {a kd : Nat} {vs : List Value} (hP : zP g h H) (hS : va_S (zA g) s.heap H locs) (hK : va_K g.2.2.2.1 zCl (zTys g) s) (hO : zRO g s s.heap) (hc : h[a]? = some (kd, vs)) (hk : 100 ≤ kd) (ht : a < g.2.2.1.length ∨ kd - 100 < 9) :
    ∃ cell : Cell, H[zq g a]? = some cell ∧ s.isArrayOf cell (zTy.getD (kd - 100) .int) ∧ cell.vm ≠ .unknown ∧ vs.length ≤ cell.slots.size ∧ cell.slots.size.toInt32 = Int32.ofNat vs.length ∧ ∀ (j : Nat) (v : Value), vs[j]? = some v → zel (zTy.getD (kd - 100) .int) v = true → cell.slots[j]? = some (zv g v) := by
  by_cases ha : a < g.2.2.1.length
  · obtain ⟨cell, h1, h2, h3, h4, h5, h6, h7⟩ := (hO a _ (zP_ro hP hc ha)).1 hk
    have hz : zq g a = g.2.1 a := by simp [zq, ha]
    refine ⟨cell, ?_, h2, h3, h4, h5, fun j v hj he => ?_⟩
    · rw [hz, hS.2.1 _ (Array.getElem?_eq_some_iff.mp h1).1 h7]; exact h1
    · have hl : j < vs.length := (List.getElem?_eq_some_iff.mp hj).1
      rw [h6 j hl]
      show some (zv g (vs.getD j .null)) = _
      rw [List.getD_eq_getElem?_getD, hj]; rfl
  · have h5 := zP_at hP hc (Nat.not_lt.mp ha) (by show kd ≠ 98; omega)
    have hE : zE g (kd, vs) = .inl (g.2.2.2.2 (kd - 100), zAr g (zTy.getD (kd - 100) .int) vs) := by
      unfold zE; rw [if_neg (Nat.not_lt.mpr hk)]
    rw [hE] at h5
    have h6 : H[zq g a]? = some (arrV (g.2.2.2.2 (kd - 100)) vs.length (zAf g (zTy.getD (kd - 100) .int) vs)) := by rw [← zAr_cell]; exact h5
    refine ⟨_, h6, (hK.2 _ _ (zTys_get g (ht.resolve_left ha))).1 _ _, (fun q => by cases q), ?_, ?_, fun j v hj he => ?_⟩
    · rw [arrV_size]; exact Nat.le_refl _
    · rw [arrV_size] <;> rfl
    · rw [arrV_read _ _ (List.getElem?_eq_some_iff.mp hj).1, zAf_el g _ hj he]
theorem zin {vs : List Value} {v : Value} {i : Int32} {n : Nat} (h0 : ¬ i < 0) (hv : vs[i.toNatClampNeg]? = some v) (hn : vs.length ≤ n) : ¬ (i < 0 ∨ n ≤ i.toNatClampNeg) := by
  have := (List.getElem?_eq_some_iff.mp hv).1
  intro q
  rcases q with q | q
  · exact h0 q
  · omega
def zFld (zT : List Cond) (own : String) (index ci k : Nat) : Prop := ∃ (C : String) (T : u_T) (N : Nat), zCl[ci]? = some (C, T, N) ∧ k < N ∧ (∀ w ∈ u_ws C T N, w ∈ zT) ∧ Cond.fieldLink own index (T k).1 (T k).2.1 (T k).2.2.1 ∈ zT
def zFldN (zT zN : List Cond) (own : String) (index ci k : Nat) : Prop := ∃ (C host : String) (T : u_T) (N : Nat), zCl[ci]? = some (C, T, N) ∧ k < N ∧ (∀ w ∈ u_ws C T N, w ∈ zT) ∧ Cond.fieldLinkNest own index (T k).1 (T k).2.1 (T k).2.2.1 host ∈ zN
def zPut (zT : List Cond) (own : String) (index ci k : Nat) (fin : Bool) (ty : FieldType) : Prop := ∃ (C : String) (T : u_T) (N : Nat) (ty0 : Nat → FieldType), zCl[ci]? = some (C, T, N) ∧ k < N ∧ (∀ w ∈ u_ws C T N, w ∈ zT) ∧ Cond.fieldLink own index (T k).1 (T k).2.1 (T k).2.2.1 ∈ zT ∧ (T k).2.2.2 = fin ∧ parseFieldDescriptor (T k).2.2.1 = some ty ∧ (∀ k, k < N → parseFieldDescriptor (T k).2.2.1 = some (ty0 k)) ∧ (∀ a, a < N → ∀ b, b < N → a ≠ b → (T a).2.1 ≠ (T b).2.1) ∧ (fin = true → (T k).1 = own)
def zfit (ty : FieldType) (v : Value) : Prop := narrow ty v = v ∧ fits ty v = true
theorem zfit_v {g : zG} {ty : FieldType} {v : Value} (h : zfit ty v) : zfit ty (zv g v) := by
  cases v <;> first | exact h | (obtain ⟨h1, h2⟩ := h; cases ty <;> first | exact ⟨rfl, rfl⟩ | (simp [fits] at h2))
theorem zP1 {D : va_G} {cl : List vw_C} {q : Nat × va_E} {H : Heap} (h : va_at D cl q H) : va_P D cl [q] H := fun k x hk => by
  have hz : k < 1 := (List.getElem?_eq_some_iff.mp hk).1
  rw [show k = 0 by omega] at hk
  cases hk
  exact h
theorem zset_map {g : zG} {fs : List Value} {k : Nat} {v : Value} : (fs.map (zv g)).set k (zv g v) = (fs.set k v).map (zv g) := by rw [List.map_set]
theorem zE_obj (g : zG) {ci : Nat} (h : ci < 100) (fs : List Value) : zE g (ci, fs) = .inr (ci, fs.map (zv g)) := by unfold zE; rw [if_pos h]
theorem zE_arr (g : zG) {kd : Nat} (h : ¬ kd < 100) (vs : List Value) : zE g (kd, vs) = .inl (g.2.2.2.2 (kd - 100), zAr g (zTy.getD (kd - 100) .int) vs) := by unfold zE; rw [if_neg h]
theorem zgetD_set {α : Type} (vs : List α) (i j : Nat) (v d : α) (hi : i < vs.length) : (vs.set i v).getD j d = if j = i then v else vs.getD j d := by
  rw [List.getD_eq_getElem?_getD, List.getD_eq_getElem?_getD]
  by_cases h : j = i
  · subst h
    rw [if_pos rfl, List.getElem?_set_self hi]; rfl
  · rw [if_neg h, List.getElem?_set_ne (fun q => h q.symm)]
section ZH
variable {zT zN : List Cond} {X : zX} {cc : ByteArray} {own : String} {k n pc : Nat} {ls : zL} {st : List Value} {h : zH}
theorem z_getfield (F : zF zT zN X cc own) {index ci j a : Nat} {fs : List Value} {v : Value} (L : zFld zT own index ci j) (hd : decode cc pc = .ok (.getfield index, 3)) (hc : h[a]? = some (ci, fs)) (hl : ci < 90) (hv : fs[j]? = some v) (K : Z X k n (pc + 3) ls (v :: st) h) : Z X k n pc ls (.ref a :: st) h := by
  obtain ⟨p, l, e, R, s, m, args, below, meth, c, Q, g, nL⟩ := X
  obtain ⟨C, T, N, hcl, hj, hw, hlk⟩ := L
  obtain ⟨hx, hb, hml, hown, hts, hnw, hK, hO, hg, hlo, htr⟩ := F
  intro la H locs hla hP hS
  by_cases ha : a < g.2.2.1.length
  · obtain ⟨r, h1, h2, h3⟩ := (hO a _ (zP_ro hP hc ha)).2 (by show ci < 90; omega)
    have hr : r = (C, T, N) := Option.some.inj (h1.symm.trans hcl)
    subst hr
    obtain ⟨cf, kf, i, f, cell, f1, f2, f3, f4, f5, f6⟩ := h3 j v hj hv
    have hz : zq g a = g.2.1 a := by simp [zq, ha]
    exact W.getf hx hb hown (hts _ hlk) f1 f2 (a := zq g a) (cell := cell) (v := zv g v) (by rw [hz, hS.2.1 _ (Array.getElem?_eq_some_iff.mp f3).1 f6]; exact f3) f4 f5 rfl rfl hd (K la H locs hla hP hS)
  · have h4 := zP_at hP hc (Nat.not_lt.mp ha) (by show ci ≠ 98; omega)
    rw [zE_obj g (by omega)] at h4
    exact va_get (D := g.2.2.2.1) hx hb hts hw hown hK (zP1 h4) 0 rfl hcl j hj (hts _ hlk) (fun _ h9 => h9) (v := zv g v) (by rw [List.getElem?_map, hv]; rfl) hd (K la H locs hla hP hS)
theorem z_getfieldN (F : zF zT zN X cc own) {index ci j a : Nat} {fs : List Value} {v : Value} (L : zFldN zT zN own index ci j) (hd : decode cc pc = .ok (.getfield index, 3)) (hc : h[a]? = some (ci, fs)) (hl : ci < 90) (hv : fs[j]? = some v) (K : Z X k n (pc + 3) ls (v :: st) h) : Z X k n pc ls (.ref a :: st) h := by
  obtain ⟨p, l, e, R, s, m, args, below, meth, c, Q, g, nL⟩ := X
  obtain ⟨C, host, T, N, hcl, hj, hw, hlk⟩ := L
  obtain ⟨hx, hb, hml, hown, hts, hnw, hK, hO, hg, hlo, htr⟩ := F
  intro la H locs hla hP hS
  by_cases ha : a < g.2.2.1.length
  · obtain ⟨r, h1, h2, h3⟩ := (hO a _ (zP_ro hP hc ha)).2 (by show ci < 90; omega)
    have hr : r = (C, T, N) := Option.some.inj (h1.symm.trans hcl)
    subst hr
    obtain ⟨cf, kf, i, f, cell, f1, f2, f3, f4, f5, f6⟩ := h3 j v hj hv
    have hz : zq g a = g.2.1 a := by simp [zq, ha]
    exact va_Wgetf hx hb hown (va_Nw.use rfl (hnw _ hlk)) f1 f2 (a := zq g a) (cell := cell) (v := zv g v) (by rw [hz, hS.2.1 _ (Array.getElem?_eq_some_iff.mp f3).1 f6]; exact f3) f4 f5 rfl rfl hd (K la H locs hla hP hS)
  · have h4 := zP_at hP hc (Nat.not_lt.mp ha) (by show ci ≠ 98; omega)
    rw [zE_obj g (by omega)] at h4
    exact va_getN (D := g.2.2.2.1) hx hb hts hw hown hK (zP1 h4) 0 rfl hcl j hj (va_Nw.use rfl (hnw _ hlk)) (fun _ h9 => h9) (v := zv g v) (by rw [List.getElem?_map, hv]; rfl) hd (K la H locs hla hP hS)
/-- a cell that may be written: not among the first ones -/
def zmut (X : zX) (a : Nat) : Prop := X.2.2.2.2.2.2.2.2.2.2.2.1.2.2.1.length ≤ a
theorem z_putfield (F : zF zT zN X cc own) {index ci j a : Nat} {ty : FieldType} {fs : List Value} {v : Value} (L : zPut zT own index ci j false ty) (hd : decode cc pc = .ok (.putfield index, 3)) (hmu : zmut X a) (hc : h[a]? = some (ci, fs)) (hl : ci < 90) (hj2 : j < fs.length) (hv : zfit ty v) (K : Z X k n (pc + 3) ls st (h.set a (ci, fs.set j v))) : Z X k n pc ls (v :: .ref a :: st) h := by
  obtain ⟨p, l, e, R, s, m, args, below, meth, c, Q, g, nL⟩ := X
  obtain ⟨C, T, N, ty0, hcl, hj, hw, hlk, hfin, hty, hty0, hnm, -⟩ := L
  obtain ⟨hx, hb, hml, hown, hts, hnw, hK, hO, hg, hlo, htr⟩ := F
  intro la H locs hla hP hS
  have ha : g.2.2.1.length ≤ a := hmu
  have h4 := zP_at hP hc ha (by show ci ≠ 98; omega)
  rw [zE_obj g (by omega)] at h4
  have hf := zfit_v (g := g) hv
  have hap := va_apart (own := own) hts hw ty0 hty0 hnm hK hcl
  obtain ⟨r, r1, cell, q1, q2, q3, q4⟩ := h4
  have hr : r = (C, T, N) := Option.some.inj (r1.symm.trans hcl)
  subst hr
  obtain ⟨hSl, hfc, kC, hkC, hkind⟩ := hK.1 ci _ hcl
  obtain ⟨cf, kf, fi, f, hi, hsl⟩ := hSl j hj
  have hlay := hts _ (hw _ (u_in_lay hj))
  unfold u_lay at hlay
  rw [if_neg (by rw [hfin]; decide)] at hlay
  have hst := (u_facts hfc hkC (u_lays hts hw hj) hi).1
  have h6 := u_store hfc hkC hkind hlay hi hty hf.1 hf.2
  refine W.putK hx hb (f := f) ⟨hown, hts _ hlk, ⟨_, _, _, hi⟩, hst⟩ (by rw [q2]; exact h6) q1 q3 (by rw [hsl]; exact k2_hasslot (q4 j hj)) rfl rfl hd fun H' e1 e2 e3 => ?_
  rw [hsl] at e1
  refine K la H' _ hla (zP_put hP hc ha ?_ e2 e3) (zS_put hS ha e2 e3)
  rw [zE_obj g (by omega)]
  exact ⟨_, hcl, t_OB.to (V := updV (vp_V (fs.map (zv g))) j (zv g v)) ⟨_, e1, q2, q3, t_set q4 hap hj (zv g v)⟩ (fun i _ => by rw [← zset_map]; exact vp_updV_set (by simpa using hj2) (zv g v) i)⟩
theorem z_putfieldF (F : zF zT zN X cc own) (I : X.2.2.2.2.2.2.2.2.1.name = "<init>") {index ci j a : Nat} {ty : FieldType} {fs : List Value} {v : Value} (L : zPut zT own index ci j true ty) (hd : decode cc pc = .ok (.putfield index, 3)) (hmu : zmut X a) (hc : h[a]? = some (ci, fs)) (hl : ci < 90) (hj2 : j < fs.length) (hv : zfit ty v) (K : Z X k n (pc + 3) ls st (h.set a (ci, fs.set j v))) : Z X k n pc ls (v :: .ref a :: st) h := by
  obtain ⟨p, l, e, R, s, m, args, below, meth, c, Q, g, nL⟩ := X
  obtain ⟨C, T, N, ty0, hcl, hj, hw, hlk, hfin, hty, hty0, hnm, hdecl⟩ := L
  obtain ⟨hx, hb, hml, hown, hts, hnw, hK, hO, hg, hlo, htr⟩ := F
  intro la H locs hla hP hS
  have ha : g.2.2.1.length ≤ a := hmu
  have h4 := zP_at hP hc ha (by show ci ≠ 98; omega)
  rw [zE_obj g (by omega)] at h4
  have hf := zfit_v (g := g) hv
  have hap := va_apart (own := own) hts hw ty0 hty0 hnm hK hcl
  obtain ⟨r, r1, cell, q1, q2, q3, q4⟩ := h4
  have hr : r = (C, T, N) := Option.some.inj (r1.symm.trans hcl)
  subst hr
  obtain ⟨hSl, hfc, kC, hkC, hkind⟩ := hK.1 ci _ hcl
  obtain ⟨cf, kf, fi, f, hi, hsl⟩ := hSl j hj
  have hlay := hts _ (hw _ (u_in_lay hj))
  unfold u_lay at hlay
  rw [if_pos hfin] at hlay
  have hst := (u_facts hfc hkC (u_lays hts hw hj) hi).1
  have hcf : m.cls = cf := by
    obtain ⟨_, _, c', _, _, _, -, -, hf', -, -, -, hown2, -⟩ := Cond.laysFinal_spec hlay
    have e1 : c' = cf := by have := hi.symm.trans hf'; simp at this; exact this.1.symm
    rw [hdecl rfl] at hown2
    rw [← e1]; exact Option.some.inj (hown.symm.trans hown2)
  have h6 := u_fits hfc hkC hkind (Or.inr hlay) hi hty hf.1 hf.2
  refine W.putFinK hx hb hown (hts _ hlk) hi hst hcf I (by rw [q2]; exact h6) q1 q3 (by rw [hsl]; exact k2_hasslot (q4 j hj)) rfl rfl hd fun H' e1 e2 e3 => ?_
  rw [hsl] at e1
  refine K la H' _ hla (zP_put hP hc ha ?_ e2 e3) (zS_put hS ha e2 e3)
  rw [zE_obj g (by omega)]
  exact ⟨_, hcl, t_OB.to (V := updV (vp_V (fs.map (zv g))) j (zv g v)) ⟨_, e1, q2, q3, t_set q4 hap hj (zv g v)⟩ (fun i _ => by rw [← zset_map]; exact vp_updV_set (by simpa using hj2) (zv g v) i)⟩
theorem z_iaload (F : zF zT zN X cc own) {a : Nat} {i : Int32} {x : Int32} {vs : List Value} (hd : decode cc pc = .ok (.iaload, 1)) (hc : h[a]? = some (100, vs)) (h0 : ¬ i < 0) (hv : vs[i.toNatClampNeg]? = some (.int x)) (K : Z X k n (pc + 1) ls (.int x :: st) h) : Z X k n pc ls (.int i :: .ref a :: st) h := by
  obtain ⟨p, l, e, R, s, m, args, below, meth, c, Q, g, nL⟩ := X
  obtain ⟨hx, hb, hml, hown, hts, hnw, hK, hO, hg, hlo, htr⟩ := F
  intro la H locs hla hP hS
  obtain ⟨cell, h1, h2, h3, h4, h5, h6⟩ := zArrAt hP hS hK hO hc (by decide) (Or.inr (by decide))
  exact W.iald hx hb h1 h2 h3 (zin h0 hv h4) (h6 _ _ hv rfl) rfl rfl hd (K la H locs hla hP hS)
theorem z_laload (F : zF zT zN X cc own) {a : Nat} {i : Int32} {x : Int64} {vs : List Value} (hd : decode cc pc = .ok (.laload, 1)) (hc : h[a]? = some (101, vs)) (h0 : ¬ i < 0) (hv : vs[i.toNatClampNeg]? = some (.long x)) (K : Z X k n (pc + 1) ls (.long x :: st) h) : Z X k n pc ls (.int i :: .ref a :: st) h := by
  obtain ⟨p, l, e, R, s, m, args, below, meth, c, Q, g, nL⟩ := X
  obtain ⟨hx, hb, hml, hown, hts, hnw, hK, hO, hg, hlo, htr⟩ := F
  intro la H locs hla hP hS
  obtain ⟨cell, h1, h2, h3, h4, h5, h6⟩ := zArrAt hP hS hK hO hc (by decide) (Or.inr (by decide))
  exact W.lald hx hb h1 h2 h3 (zin h0 hv h4) (h6 _ _ hv rfl) rfl rfl hd (K la H locs hla hP hS)
theorem z_zaload (F : zF zT zN X cc own) {a : Nat} {i : Int32} {x : Int32} {vs : List Value} (hd : decode cc pc = .ok (.baload, 1)) (hc : h[a]? = some (102, vs)) (h0 : ¬ i < 0) (hv : vs[i.toNatClampNeg]? = some (.int x)) (K : Z X k n (pc + 1) ls (.int x :: st) h) : Z X k n pc ls (.int i :: .ref a :: st) h := by
  obtain ⟨p, l, e, R, s, m, args, below, meth, c, Q, g, nL⟩ := X
  obtain ⟨hx, hb, hml, hown, hts, hnw, hK, hO, hg, hlo, htr⟩ := F
  intro la H locs hla hP hS
  obtain ⟨cell, h1, h2, h3, h4, h5, h6⟩ := zArrAt hP hS hK hO hc (by decide) (Or.inr (by decide))
  exact W.zald hx hb h1 h2 h3 (zin h0 hv h4) (h6 _ _ hv rfl) rfl rfl hd (K la H locs hla hP hS)
theorem z_caload (F : zF zT zN X cc own) {a : Nat} {i : Int32} {x : Int32} {vs : List Value} (hd : decode cc pc = .ok (.caload, 1)) (hc : h[a]? = some (103, vs)) (h0 : ¬ i < 0) (hv : vs[i.toNatClampNeg]? = some (.int x)) (K : Z X k n (pc + 1) ls (.int x :: st) h) : Z X k n pc ls (.int i :: .ref a :: st) h := by
  obtain ⟨p, l, e, R, s, m, args, below, meth, c, Q, g, nL⟩ := X
  obtain ⟨hx, hb, hml, hown, hts, hnw, hK, hO, hg, hlo, htr⟩ := F
  intro la H locs hla hP hS
  obtain ⟨cell, h1, h2, h3, h4, h5, h6⟩ := zArrAt hP hS hK hO hc (by decide) (Or.inr (by decide))
  exact W.cald hx hb h1 h2 h3 (zin h0 hv h4) (h6 _ _ hv rfl) rfl rfl hd (K la H locs hla hP hS)
theorem z_baload (F : zF zT zN X cc own) {a : Nat} {i : Int32} {x : Int32} {vs : List Value} (hd : decode cc pc = .ok (.baload, 1)) (hc : h[a]? = some (104, vs)) (h0 : ¬ i < 0) (hv : vs[i.toNatClampNeg]? = some (.int x)) (K : Z X k n (pc + 1) ls (.int x :: st) h) : Z X k n pc ls (.int i :: .ref a :: st) h := by
  obtain ⟨p, l, e, R, s, m, args, below, meth, c, Q, g, nL⟩ := X
  obtain ⟨hx, hb, hml, hown, hts, hnw, hK, hO, hg, hlo, htr⟩ := F
  intro la H locs hla hP hS
  obtain ⟨cell, h1, h2, h3, h4, h5, h6⟩ := zArrAt hP hS hK hO hc (by decide) (Or.inr (by decide))
  exact W.bald hx hb h1 h2 h3 (zin h0 hv h4) (h6 _ _ hv rfl) rfl rfl hd (K la H locs hla hP hS)
theorem z_aaload (F : zF zT zN X cc own) {a kd : Nat} {i : Int32} {v : Value} {vs : List Value} (hd : decode cc pc = .ok (.aaload, 1)) (hc : h[a]? = some (kd, vs)) (hk : 100 ≤ kd) (ht : kd - 100 < zTy.length) (hr : (zTy.getD (kd - 100) .int).isReference = true) (h0 : ¬ i < 0) (hv : vs[i.toNatClampNeg]? = some v) (he : zel (zTy.getD (kd - 100) .int) v = true) (K : Z X k n (pc + 1) ls (v :: st) h) (hm9 : a < zNR ∨ kd - 100 < 9 := by first | exact Or.inr (by decide) | exact Or.inl (by decide)) : Z X k n pc ls (.int i :: .ref a :: st) h := by
  obtain ⟨p, l, e, R, s, m, args, below, meth, c, Q, g, nL⟩ := X
  obtain ⟨hx, hb, hml, hown, hts, hnw, hK, hO, hg, hlo, htr⟩ := F
  intro la H locs hla hP hS
  obtain ⟨cell, h1, h2, h3, h4, h5, h6⟩ := zArrAt hP hS hK hO hc hk (hm9.imp_left (fun q => by rw [htr.2.1]; exact q))
  exact W.aald hx hb h1 h2 hr h3 (zin h0 hv h4) (h6 _ _ hv he) rfl rfl hd (K la H locs hla hP hS)
theorem z_alen (F : zF zT zN X cc own) {a kd : Nat} {vs : List Value} {v : Int32} (hd : decode cc pc = .ok (.arraylength, 1)) (hc : h[a]? = some (kd, vs)) (hk : 100 ≤ kd) (ht : kd - 100 < zTy.length) (hv : Int32.ofNat vs.length = v) (K : Z X k n (pc + 1) ls (.int v :: st) h) (hm9 : a < zNR ∨ kd - 100 < 9 := by first | exact Or.inr (by decide) | exact Or.inl (by decide)) : Z X k n pc ls (.ref a :: st) h := by
  obtain ⟨p, l, e, R, s, m, args, below, meth, c, Q, g, nL⟩ := X
  obtain ⟨hx, hb, hml, hown, hts, hnw, hK, hO, hg, hlo, htr⟩ := F
  intro la H locs hla hP hS
  obtain ⟨cell, h1, h2, h3, h4, h5, h6⟩ := zArrAt hP hS hK hO hc hk (hm9.imp_left (fun q => by rw [htr.2.1]; exact q))
  exact W.alen hx hb h1 h2 (h5.trans hv) rfl rfl hd (K la H locs hla hP hS)
theorem z_iastore (F : zF zT zN X cc own) {a : Nat} {i : Int32} {x : Int32} {vs : List Value} (hd : decode cc pc = .ok (.iastore, 1)) (hmu : zmut X a) (hc : h[a]? = some (100, vs)) (h0 : ¬ i < 0) (hi : i.toNatClampNeg < vs.length) (K : Z X k n (pc + 1) ls st (h.set a (100, vs.set i.toNatClampNeg (.int x)))) : Z X k n pc ls (.int x :: .int i :: .ref a :: st) h := by
  obtain ⟨p, l, e, R, s, m, args, below, meth, c, Q, g, nL⟩ := X
  obtain ⟨hx, hb, hml, hown, hts, hnw, hK, hO, hg, hlo, htr⟩ := F
  intro la H locs hla hP hS
  have ha : g.2.2.1.length ≤ a := hmu
  have h5 := zP_at hP hc ha (show (100 : Nat) ≠ 98 by decide)
  have hA := (hK.2 _ _ (zTys_get g (t := 100 - 100) (by decide))).1 vs.length (zAf g (zTy.getD (100 - 100) .int) vs)
  have hH : H[zq g a]? = some (arrV (g.2.2.2.2 (100 - 100)) vs.length (zAf g (zTy.getD (100 - 100) .int) vs)) := by
    rw [zE_arr g (by decide)] at h5
    rw [← zAr_cell]; exact h5
  refine W.iast hx hb hH hA (fun q => by cases q) (by show ¬ (i < 0 ∨ (arrV _ _ _).slots.size ≤ _); rw [arrV_size]; exact fun q => q.elim h0 (fun q => absurd hi (Nat.not_lt.mpr q))) rfl rfl hd fun H1 e1 z oq => ?_
  refine K la H1 _ hla (zP_put hP hc ha ?_ z oq) (zS_put hS ha z oq)
  rw [zE_arr g (by decide)]
  show H1[zq g a]? = some (vp_cell _ _)
  rw [e1, zAr_cell, arrV_store, List.length_set]
  congr 2
  funext q
  show updV _ _ _ q = .int (zi ((vs.set _ _).getD q .null))
  rw [zgetD_set _ _ _ _ _ hi]
  by_cases hq : q = i.toNatClampNeg
  · subst hq
    rw [if_pos rfl]
    simp [updV, zi]
    try rfl
  · rw [if_neg hq]
    simp [updV, hq]
    rfl
theorem z_lastore (F : zF zT zN X cc own) {a : Nat} {i : Int32} {x : Int64} {vs : List Value} (hd : decode cc pc = .ok (.lastore, 1)) (hmu : zmut X a) (hc : h[a]? = some (101, vs)) (h0 : ¬ i < 0) (hi : i.toNatClampNeg < vs.length) (K : Z X k n (pc + 1) ls st (h.set a (101, vs.set i.toNatClampNeg (.long x)))) : Z X k n pc ls (.long x :: .int i :: .ref a :: st) h := by
  obtain ⟨p, l, e, R, s, m, args, below, meth, c, Q, g, nL⟩ := X
  obtain ⟨hx, hb, hml, hown, hts, hnw, hK, hO, hg, hlo, htr⟩ := F
  intro la H locs hla hP hS
  have ha : g.2.2.1.length ≤ a := hmu
  have h5 := zP_at hP hc ha (show (101 : Nat) ≠ 98 by decide)
  have hA := (hK.2 _ _ (zTys_get g (t := 101 - 100) (by decide))).1 vs.length (zAf g (zTy.getD (101 - 100) .int) vs)
  have hH : H[zq g a]? = some (arrV (g.2.2.2.2 (101 - 100)) vs.length (zAf g (zTy.getD (101 - 100) .int) vs)) := by
    rw [zE_arr g (by decide)] at h5
    rw [← zAr_cell]; exact h5
  refine W.last hx hb hH hA (fun q => by cases q) (by show ¬ (i < 0 ∨ (arrV _ _ _).slots.size ≤ _); rw [arrV_size]; exact fun q => q.elim h0 (fun q => absurd hi (Nat.not_lt.mpr q))) rfl rfl hd fun H1 e1 z oq => ?_
  refine K la H1 _ hla (zP_put hP hc ha ?_ z oq) (zS_put hS ha z oq)
  rw [zE_arr g (by decide)]
  show H1[zq g a]? = some (vp_cell _ _)
  rw [e1, zAr_cell, arrV_store, List.length_set]
  congr 2
  funext q
  show updV _ _ _ q = .long (zl ((vs.set _ _).getD q .null))
  rw [zgetD_set _ _ _ _ _ hi]
  by_cases hq : q = i.toNatClampNeg
  · subst hq
    rw [if_pos rfl]
    simp [updV, zl]
    try rfl
  · rw [if_neg hq]
    simp [updV, hq]
    rfl
theorem z_zastore (F : zF zT zN X cc own) {a : Nat} {i : Int32} {x : Int32} {vs : List Value} (hd : decode cc pc = .ok (.bastore, 1)) (hmu : zmut X a) (hc : h[a]? = some (102, vs)) (h0 : ¬ i < 0) (hi : i.toNatClampNeg < vs.length) (K : Z X k n (pc + 1) ls st (h.set a (102, vs.set i.toNatClampNeg (.int (vp_nar .boolean x))))) : Z X k n pc ls (.int x :: .int i :: .ref a :: st) h := by
  obtain ⟨p, l, e, R, s, m, args, below, meth, c, Q, g, nL⟩ := X
  obtain ⟨hx, hb, hml, hown, hts, hnw, hK, hO, hg, hlo, htr⟩ := F
  intro la H locs hla hP hS
  have ha : g.2.2.1.length ≤ a := hmu
  have h5 := zP_at hP hc ha (show (102 : Nat) ≠ 98 by decide)
  have hA := (hK.2 _ _ (zTys_get g (t := 102 - 100) (by decide))).1 vs.length (zAf g (zTy.getD (102 - 100) .int) vs)
  have hH : H[zq g a]? = some (arrV (g.2.2.2.2 (102 - 100)) vs.length (zAf g (zTy.getD (102 - 100) .int) vs)) := by
    rw [zE_arr g (by decide)] at h5
    rw [← zAr_cell]; exact h5
  refine W.zast hx hb hH hA (fun q => by cases q) (by show ¬ (i < 0 ∨ (arrV _ _ _).slots.size ≤ _); rw [arrV_size]; exact fun q => q.elim h0 (fun q => absurd hi (Nat.not_lt.mpr q))) rfl rfl hd fun H1 e1 z oq => ?_
  refine K la H1 _ hla (zP_put hP hc ha ?_ z oq) (zS_put hS ha z oq)
  rw [zE_arr g (by decide)]
  show H1[zq g a]? = some (vp_cell _ _)
  rw [e1, zAr_cell, arrV_store, List.length_set]
  congr 2
  funext q
  show updV _ _ _ q = .int (zi ((vs.set _ _).getD q .null))
  rw [zgetD_set _ _ _ _ _ hi]
  by_cases hq : q = i.toNatClampNeg
  · subst hq
    rw [if_pos rfl]
    simp [updV, zi, vp_nar]
    try rfl
  · rw [if_neg hq]
    simp [updV, hq]
    rfl
theorem z_castore (F : zF zT zN X cc own) {a : Nat} {i : Int32} {x : Int32} {vs : List Value} (hd : decode cc pc = .ok (.castore, 1)) (hmu : zmut X a) (hc : h[a]? = some (103, vs)) (h0 : ¬ i < 0) (hi : i.toNatClampNeg < vs.length) (K : Z X k n (pc + 1) ls st (h.set a (103, vs.set i.toNatClampNeg (.int (vp_nar .char x))))) : Z X k n pc ls (.int x :: .int i :: .ref a :: st) h := by
  obtain ⟨p, l, e, R, s, m, args, below, meth, c, Q, g, nL⟩ := X
  obtain ⟨hx, hb, hml, hown, hts, hnw, hK, hO, hg, hlo, htr⟩ := F
  intro la H locs hla hP hS
  have ha : g.2.2.1.length ≤ a := hmu
  have h5 := zP_at hP hc ha (show (103 : Nat) ≠ 98 by decide)
  have hA := (hK.2 _ _ (zTys_get g (t := 103 - 100) (by decide))).1 vs.length (zAf g (zTy.getD (103 - 100) .int) vs)
  have hH : H[zq g a]? = some (arrV (g.2.2.2.2 (103 - 100)) vs.length (zAf g (zTy.getD (103 - 100) .int) vs)) := by
    rw [zE_arr g (by decide)] at h5
    rw [← zAr_cell]; exact h5
  refine W.cast hx hb hH hA (fun q => by cases q) (by show ¬ (i < 0 ∨ (arrV _ _ _).slots.size ≤ _); rw [arrV_size]; exact fun q => q.elim h0 (fun q => absurd hi (Nat.not_lt.mpr q))) rfl rfl hd fun H1 e1 z oq => ?_
  refine K la H1 _ hla (zP_put hP hc ha ?_ z oq) (zS_put hS ha z oq)
  rw [zE_arr g (by decide)]
  show H1[zq g a]? = some (vp_cell _ _)
  rw [e1, zAr_cell, arrV_store, List.length_set]
  congr 2
  funext q
  show updV _ _ _ q = .int (zi ((vs.set _ _).getD q .null))
  rw [zgetD_set _ _ _ _ _ hi]
  by_cases hq : q = i.toNatClampNeg
  · subst hq
    rw [if_pos rfl]
    simp [updV, zi, vp_nar]
    try rfl
  · rw [if_neg hq]
    simp [updV, hq]
    rfl
theorem z_bastore (F : zF zT zN X cc own) {a : Nat} {i : Int32} {x : Int32} {vs : List Value} (hd : decode cc pc = .ok (.bastore, 1)) (hmu : zmut X a) (hc : h[a]? = some (104, vs)) (h0 : ¬ i < 0) (hi : i.toNatClampNeg < vs.length) (K : Z X k n (pc + 1) ls st (h.set a (104, vs.set i.toNatClampNeg (.int (vp_nar .byte x))))) : Z X k n pc ls (.int x :: .int i :: .ref a :: st) h := by
  obtain ⟨p, l, e, R, s, m, args, below, meth, c, Q, g, nL⟩ := X
  obtain ⟨hx, hb, hml, hown, hts, hnw, hK, hO, hg, hlo, htr⟩ := F
  intro la H locs hla hP hS
  have ha : g.2.2.1.length ≤ a := hmu
  have h5 := zP_at hP hc ha (show (104 : Nat) ≠ 98 by decide)
  have hA := (hK.2 _ _ (zTys_get g (t := 104 - 100) (by decide))).1 vs.length (zAf g (zTy.getD (104 - 100) .int) vs)
  have hH : H[zq g a]? = some (arrV (g.2.2.2.2 (104 - 100)) vs.length (zAf g (zTy.getD (104 - 100) .int) vs)) := by
    rw [zE_arr g (by decide)] at h5
    rw [← zAr_cell]; exact h5
  refine W.bast hx hb hH hA (fun q => by cases q) (by show ¬ (i < 0 ∨ (arrV _ _ _).slots.size ≤ _); rw [arrV_size]; exact fun q => q.elim h0 (fun q => absurd hi (Nat.not_lt.mpr q))) rfl rfl hd fun H1 e1 z oq => ?_
  refine K la H1 _ hla (zP_put hP hc ha ?_ z oq) (zS_put hS ha z oq)
  rw [zE_arr g (by decide)]
  show H1[zq g a]? = some (vp_cell _ _)
  rw [e1, zAr_cell, arrV_store, List.length_set]
  congr 2
  funext q
  show updV _ _ _ q = .int (zi ((vs.set _ _).getD q .null))
  rw [zgetD_set _ _ _ _ _ hi]
  by_cases hq : q = i.toNatClampNeg
  · subst hq
    rw [if_pos rfl]
    simp [updV, zi, vp_nar]
    try rfl
  · rw [if_neg hq]
    simp [updV, hq]
    rfl
def zNew (zT : List Cond) (own : String) (index ci : Nat) (fs : List Value) : Prop := ∃ (C : String) (T : u_T) (ty : Nat → FieldType), zCl[ci]? = some (C, T, fs.length) ∧ ci < 90 ∧ (∀ w ∈ u_ws C T fs.length, w ∈ zT) ∧ Cond.classLink own index C ∈ zT ∧ Cond.instantiable C fs.length ∈ zT ∧ Cond.initialized C ∈ zT ∧ (∀ k, k < fs.length → parseFieldDescriptor (T k).2.2.1 = some (ty k)) ∧ ∀ j, j < fs.length → defaultValue (ty j) = vp_V fs j
theorem z_new (F : zF zT zN X cc own) {index ci : Nat} {fs : List Value} (L : zNew zT own index ci fs) (hd : decode cc pc = .ok (.new index, 3)) (hf : ∀ g : zG, fs.map (zv g) = fs) (hk : k + 1 ≤ X.2.2.2.1.cells) (hn : n + fs.length ≤ X.2.2.2.1.slots) (K : Z X (k + 1) (n + fs.length) (pc + 3) ls (.ref h.length :: st) (h ++ [(ci, fs)])) : Z X k n pc ls st h := by
  obtain ⟨p, l, e, R, s, m, args, below, meth, c, Q, g, nL⟩ := X
  obtain ⟨C, T, ty, hcl, hci, hw, hlk, hins, hini, hty, hdf⟩ := L
  obtain ⟨hx, hb, hml, hown, hts, hnw, hK, hO, hg, hlo, htr⟩ := F
  intro la H locs hla hP hS
  have hKn := hK.1 ci _ hcl
  refine W.newcK hx hb hown (hts _ hlk) (hts _ hins) (hts _ hini) rfl hd hk hn hKn.2.1 rfl fun H1 kC hkC e1 z1 o1 => ?_
  have K2 := K la H1 locs hla (zP_push hP (fun _ => by rw [zE_obj g (by omega), hf g]; exact ⟨_, hcl, (u_born ty hts hw hKn hkC e1 hty).to hdf⟩) z1 o1) (zS_push hS (by omega) o1)
  have hz : zv g (.ref h.length) = .ref H.size := by show Value.ref (zq g h.length) = _; rw [zq_len hP]
  rw [List.map_cons, hz] at K2
  exact K2
/-- a new array of numbers -/
theorem z_newarray (F : zF zT zN X cc own) {atype : ArrayType} {kd : Nat} {i : Int32} (hd : decode cc pc = .ok (.newarray atype, 2)) (hw : Cond.arrayClass (newarray.typeOf atype) ∈ zT) (hk : 100 ≤ kd) (ht : kd - 100 < 9) (hty : newarray.typeOf atype = zTy.getD (kd - 100) .int) (hnr : (zTy.getD (kd - 100) .int).isReference = false) (hnf : zTy.getD (kd - 100) .int ≠ .float) (h0 : ¬ i < 0) (hby : i.toNatClampNeg * componentBytes (newarray.typeOf atype) ≤ 536870912) (hkc : k + 1 ≤ X.2.2.2.1.cells) (hn : n + i.toNatClampNeg ≤ X.2.2.2.1.slots) (K : Z X (k + 1) (n + i.toNatClampNeg) (pc + 2) ls (.ref h.length :: st) (h ++ [(kd, List.replicate i.toNatClampNeg (defaultValue (zTy.getD (kd - 100) .int)))])) : Z X k n pc ls (.int i :: st) h := by
  obtain ⟨p, l, e, R, s, m, args, below, meth, c, Q, g, nL⟩ := X
  obtain ⟨hx, hb, hml, hown, hts, hnw, hK, hO, hg, hlo, htr⟩ := F
  intro la H locs hla hP hS
  refine va_newaK hx hb (hts _ hw) rfl hd rfl h0 rfl hby hkc hn rfl fun H1 cA e1 z1 o1 hAr hNm => ?_
  have hcA : cA = g.2.2.2.2 (kd - 100) := by
    have h9 := (hK.2 _ _ (zTys_get g ht)).2
    have h9' : s.vm.findClass ("[" ++ (zTy.getD (kd - 100) .int).toString) = some (g.2.2.2.2 (kd - 100)) := by
      revert h9 hnr
      generalize zTy.getD (kd - 100) .int = ty9
      intro hnr h9
      cases ty9 <;> first | exact h9 | (simp [FieldType.isReference] at hnr)
    rw [hty] at hNm
    exact Option.some.inj (hNm.symm.trans h9')
  have K2 := K la H1 locs hla (zP_push hP (fun _ => by
    rw [zE_arr g (by omega)]
    show H1[H.size]? = some (vp_cell _ _)
    rw [e1, zAr_cell, hty, List.length_replicate, hcA]
    congr 2
    funext j
    unfold zAf
    have e9 : (List.replicate i.toNatClampNeg (defaultValue (zTy.getD (kd - 100) .int))).getD j .null = defaultValue (zTy.getD (kd - 100) .int) ∨ (List.replicate i.toNatClampNeg (defaultValue (zTy.getD (kd - 100) .int))).getD j .null = .null := by
      rw [List.getD_eq_getElem?_getD, List.getElem?_replicate]
      by_cases hj : j < i.toNatClampNeg
      · left; rw [if_pos hj]; rfl
      · right; rw [if_neg hj]; rfl
    revert hnr hnf e9
    generalize zTy.getD (kd - 100) .int = ty9
    intro hnr hnf e9
    rcases e9 with e9 | e9 <;> rw [e9] <;> cases ty9 <;> first | rfl | (simp [FieldType.isReference] at hnr; done) | exact absurd rfl hnf) z1 o1) (zS_push hS (by omega) o1)
  have hz : zv g (.ref h.length) = .ref H.size := by show Value.ref (zq g h.length) = _; rw [zq_len hP]
  rw [List.map_cons, hz] at K2
  exact K2
theorem z_anewarray (F : zF zT zN X cc own) {C : String} {index kd : Nat} {i : Int32} (hd : decode cc pc = .ok (.anewarray index, 3)) (hw : Cond.classLink own index C ∈ zT) (hAO : ∀ p l e R s m args below meth c Q g nL, X = (p, l, e, R, s, m, args, below, meth, c, Q, g, nL) → va_AO C s) (hk : 100 ≤ kd) (ht : kd - 100 < 9) (hty : zTy.getD (kd - 100) .int = .object C) (h0 : ¬ i < 0) (hby : i.toNatClampNeg * 4 ≤ 536870912) (hkc : k + 1 ≤ X.2.2.2.1.cells) (hn : n + i.toNatClampNeg ≤ X.2.2.2.1.slots) (K : Z X (k + 1) (n + i.toNatClampNeg) (pc + 3) ls (.ref h.length :: st) (h ++ [(kd, List.replicate i.toNatClampNeg .null)])) : Z X k n pc ls (.int i :: st) h := by
  obtain ⟨p, l, e, R, s, m, args, below, meth, c, Q, g, nL⟩ := X
  obtain ⟨hx, hb, hml, hown, hts, hnw, hK, hO, hg, hlo, htr⟩ := F
  intro la H locs hla hP hS
  refine W.anew hx hb hown (hts _ hw) (va_AO.use (hAO _ _ _ _ _ _ _ _ _ _ _ _ _ rfl)) rfl hd rfl h0 hby hkc hn fun cA kA comp f1 f2 f3 f4 => ?_
  generalize hH1 : H.push ({ cls := cA, slots := Array.replicate i.toNatClampNeg .null, vm := .none } : Cell) = H1
  have z1 : H1.size = H.size + 1 := by rw [← hH1, Array.size_push]
  have e1 : H1[H.size]? = some (arrV cA i.toNatClampNeg (fun _ => .null)) := by rw [← hH1, Array.getElem?_push_size, ← arrV_new]
  have o1 : ∀ q : Nat, q < H.size → H1[q]? = H[q]? := fun q hq => by rw [← hH1, Array.getElem?_push, if_neg (Nat.ne_of_lt hq)]
  have hcA : cA = g.2.2.2.2 (kd - 100) := by
    have h9 := (hK.2 _ _ (zTys_get g ht)).2
    rw [hty] at h9
    obtain ⟨kA2, comp2, -, -, -, g4⟩ := h9
    exact Option.some.inj (f1.symm.trans g4)
  have K2 := K la H1 locs hla (zP_push hP (fun _ => by
    rw [zE_arr g (by omega)]
    show H1[H.size]? = some (vp_cell _ _)
    rw [e1, zAr_cell, hty, List.length_replicate, hcA]
    congr 2
    funext j
    show Value.null = va_rf (zo g ((List.replicate _ _).getD j .null))
    rw [List.getD_eq_getElem?_getD, List.getElem?_replicate]
    by_cases hj : j < i.toNatClampNeg
    · rw [if_pos hj]; rfl
    · rw [if_neg hj]; rfl) z1 o1) (zS_push hS (by omega) o1)
  have hz : zv g (.ref h.length) = .ref H.size := by show Value.ref (zq g h.length) = _; rw [zq_len hP]
  rw [List.map_cons, hz] at K2
  exact K2
/-- storing an object into an array of its class -/
theorem z_aastore (F : zF zT zN X cc own) {a b kd ci : Nat} {i : Int32} {r : vw_C} {fs vs : List Value} (hd : decode cc pc = .ok (.aastore, 1)) (hmu : zmut X a) (hmb : zmut X b) (hc : h[a]? = some (kd, vs)) (hk : 100 ≤ kd) (ht : kd - 100 < 9) (hcb : h[b]? = some (ci, fs)) (hci : ci < 90) (hr : zCl[ci]? = some r) (hty : zTy.getD (kd - 100) .int = .object r.1) (h0 : ¬ i < 0) (hi : i.toNatClampNeg < vs.length) (K : Z X k n (pc + 1) ls st (h.set a (kd, vs.set i.toNatClampNeg (.ref b)))) : Z X k n pc ls (.ref b :: .int i :: .ref a :: st) h := by
  obtain ⟨p, l, e, R, s, m, args, below, meth, c, Q, g, nL⟩ := X
  obtain ⟨hx, hb, hml, hown, hts, hnw, hK, hO, hg, hlo, htr⟩ := F
  intro la H locs hla hP hS
  have ha : g.2.2.1.length ≤ a := hmu
  have h5 := zP_at hP hc ha (by show kd ≠ 98; omega)
  have hb5 := zP_at hP hcb hmb (by show ci ≠ 98; omega)
  rw [zE_obj g (by omega)] at hb5
  obtain ⟨r', hr', cellV, g1, g2, g3, -⟩ := hb5
  have hrr : r' = r := Option.some.inj (hr'.symm.trans hr)
  subst hrr
  have hcls := (hK.1 ci r' hr).2
  have hT := hK.2 _ _ (zTys_get g ht)
  rw [hty] at hT
  obtain ⟨kA, comp, k1, k2, k3, -⟩ := hT.2
  have hcomp : comp = g.2.2.2.1.1 ci := Option.some.inj (k3.symm.trans hcls.1)
  subst hcomp
  obtain ⟨kC, hkC, -⟩ := hcls.2
  have hH : H[zq g a]? = some (arrV (g.2.2.2.2 (kd - 100)) vs.length (fun j => va_rf (zo g (vs.getD j .null)))) := by
    rw [zE_arr g (by omega), hty] at h5
    exact h5
  refine W.aast hx hb hH (fun q h => by cases h) (fun h => by cases h) k1 k2 rfl hkC ⟨h0, by show _ < (arrV _ _ _).slots.size; rw [arrV_size]; exact hi⟩ g1 (fun q h => by rw [g3] at h; cases h) (by rw [g2]; exact hkC) (by rw [g2]; exact va_assign hcls) rfl rfl hd fun H1 e1 z oq => ?_
  refine K la H1 _ hla (zP_put hP hc ha ?_ z oq) (zS_put hS ha z oq)
  rw [zE_arr g (by omega), hty]
  show H1[zq g a]? = some (vp_cell _ _)
  rw [e1, zAr_cell, arrV_store, List.length_set]
  congr 2
  funext q
  show updV _ _ _ q = va_rf (zo g ((vs.set _ _).getD q .null))
  rw [zgetD_set _ _ _ _ _ hi]
  by_cases hq : q = i.toNatClampNeg
  · subst hq
    rw [if_pos rfl]
    simp [updV, zo, va_rf]
  · rw [if_neg hq]
    simp [updV, hq]
end ZH
