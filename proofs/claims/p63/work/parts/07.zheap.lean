/-! rows of the Z layer that read and write the heap -/
theorem zP_ro {g : zG} {h : zH} {H : Heap} {a : Nat} {c : zC} (hP : zP g h H) (hc : h[a]? = some c) (ha : a < g.2.2.1.length) : g.2.2.1[a]? = some c := by
  obtain ⟨hm, e, -, -⟩ := hP
  subst e
  rwa [List.getElem?_append_left ha] at hc
def zAf (g : zG) (ty : FieldType) (vs : List Value) (j : Nat) : Value := match ty with
  | .long => .long (zl (vs.getD j .null))
  | .double => .double (zd (vs.getD j .null))
  | .object _ => va_rf (zo g (vs.getD j .null))
  | .array _ => va_rf (zo g (vs.getD j .null))
  | _ => .int (zi (vs.getD j .null))
theorem zAr_cell (g : zG) (cA : ClassId) (ty : FieldType) (vs : List Value) : vp_cell cA (zAr g ty vs) = arrV cA vs.length (zAf g ty vs) := by cases ty <;> rfl
theorem zAf_el (g : zG) (ty : FieldType) {vs : List Value} {j : Nat} {v : Value} (h : vs[j]? = some v) (he : zel ty v = true) : zAf g ty vs j = zv g v := by
  have e : vs.getD j .null = v := by rw [List.getD_eq_getElem?_getD, h]; rfl
  unfold zAf
  rw [e]
  cases ty <;> cases v <;> first | rfl | (simp [zel] at he)
theorem zTys_get (g : zG) {t : Nat} (ht : t < zTy.length) : (zTys g)[t]? = some (g.2.2.2.2 t, zTy.getD t .int) := by
  unfold zTys
  rw [List.getElem?_map, List.getElem?_range ht]
  rfl
/-- an array, written or not, as the machine sees it -/
theorem zArrAt {g : zG} {h : zH} {s : State} {H : Heap} {locs : List Loc} {a kd : Nat} {vs : List Value} (hP : zP g h H) (hS : va_S (zA g) s.heap H locs) (hK : va_K g.2.2.2.1 zCl (zTys g) s) (hO : zRO g s s.heap) (hc : h[a]? = some (kd, vs)) (hk : 100 ≤ kd) (ht : kd - 100 < zTy.length) :
    ∃ cell : Cell, H[zq g a]? = some cell ∧ s.isArrayOf cell (zTy.getD (kd - 100) .int) ∧ cell.vm ≠ .unknown ∧ vs.length ≤ cell.slots.size ∧ cell.slots.size.toInt32 = Int32.ofNat vs.length ∧ ∀ j v, vs[j]? = some v → zel (zTy.getD (kd - 100) .int) v = true → cell.slots[j]? = some (zv g v) := by
  by_cases ha : a < g.2.2.1.length
  · obtain ⟨cell, h1, h2, h3, h4, h5, h6, h7⟩ := (hO a _ (zP_ro hP hc ha)).1 hk
    have hz : zq g a = g.2.1 a := by simp [zq, ha]
    refine ⟨cell, ?_, h2, h3, h4, h5, fun j v hj he => ?_⟩
    · rw [hz, hS.2.1 _ (Array.getElem?_eq_some_iff.mp h1).1 h7]; exact h1
    · have hl : j < vs.length := (List.getElem?_eq_some_iff.mp hj).1
      rw [h6 j hl]
      show some (zv g (vs.getD j .null)) = _
      rw [List.getD_eq_getElem?_getD, hj]; rfl
  · obtain ⟨hm, e, h1, h2, h3, h4⟩ := zP_at hP hc (Nat.not_lt.mp ha)
    have h5 := h1 _ _ h4
    have hE : zE g (kd, vs) = .inl (g.2.2.2.2 (kd - 100), zAr g (zTy.getD (kd - 100) .int) vs) := by
      unfold zE; rw [if_neg (Nat.not_lt.mpr hk)]
    rw [hE] at h5
    have h6 : H[zq g a]? = some (arrV (g.2.2.2.2 (kd - 100)) vs.length (zAf g (zTy.getD (kd - 100) .int) vs)) := by rw [← zAr_cell]; exact h5
    refine ⟨_, h6, (hK.2 _ _ (zTys_get g ht)).1 _ _, (fun q => by cases q), ?_, ?_, fun j v hj he => ?_⟩
    · rw [arrV_size]; exact Nat.le_refl _
    · rw [arrV_size] <;> rfl
    · rw [arrV_read _ _ (List.getElem?_eq_some_iff.mp hj).1, zAf_el g _ hj he]
theorem zin {vs : List Value} {v : Value} {i : Int32} {n : Nat} (h0 : ¬ i < 0) (hv : vs[i.toNatClampNeg]? = some v) (hn : vs.length ≤ n) : ¬ (i < 0 ∨ n ≤ i.toNatClampNeg) := by
  have := (List.getElem?_eq_some_iff.mp hv).1
  intro q
  rcases q with q | q
  · exact h0 q
  · omega
def zFld (zT : List Cond) (own : String) (index ci k : Nat) : Prop := ∃ (C : String) (T : u_T) (N : Nat), zCl[ci]? = some (C, T, N) ∧ k < N ∧ (∀ w ∈ u_ws C T N, w ∈ zT) ∧ Cond.fieldLink own index (T k).1 (T k).2.1 (T k).2.2.1 ∈ zT
def zFldN (zT zN : List Cond) (own : String) (index ci k : Nat) : Prop := ∃ (C host : String) (T : u_T) (N : Nat), zCl[ci]? = some (C, T, N) ∧ k < N ∧ (∀ w ∈ u_ws C T N, w ∈ zT) ∧ Cond.fieldLinkNest own index (T k).1 (T k).2.1 (T k).2.2.1 host ∈ zN
def zPut (zT : List Cond) (own : String) (index ci k : Nat) (fin : Bool) (ty : FieldType) : Prop := ∃ (C : String) (T : u_T) (N : Nat) (ty0 : Nat → FieldType), zCl[ci]? = some (C, T, N) ∧ k < N ∧ (∀ w ∈ u_ws C T N, w ∈ zT) ∧ Cond.fieldLink own index (T k).1 (T k).2.1 (T k).2.2.1 ∈ zT ∧ (T k).2.2.2 = fin ∧ parseFieldDescriptor (T k).2.2.1 = some ty ∧ (∀ k, k < N → parseFieldDescriptor (T k).2.2.1 = some (ty0 k)) ∧ (∀ a, a < N → ∀ b, b < N → a ≠ b → (T a).2.1 ≠ (T b).2.1) ∧ (fin = true → (T k).1 = own)
def zfit (ty : FieldType) (v : Value) : Prop := narrow ty v = v ∧ fits ty v = true
theorem zfit_v {g : zG} {ty : FieldType} {v : Value} (h : zfit ty v) : zfit ty (zv g v) := by
  cases v <;> first | exact h | (obtain ⟨h1, h2⟩ := h; cases ty <;> first | exact ⟨rfl, rfl⟩ | (simp [fits] at h2))
theorem zset_map {g : zG} {fs : List Value} {k : Nat} {v : Value} : (fs.map (zv g)).set k (zv g v) = (fs.set k v).map (zv g) := by rw [List.map_set]
theorem zE_obj (g : zG) {ci : Nat} (h : ci < 100) (fs : List Value) : zE g (ci, fs) = .inr (ci, fs.map (zv g)) := by unfold zE; rw [if_pos h]
theorem zE_arr (g : zG) {kd : Nat} (h : ¬ kd < 100) (vs : List Value) : zE g (kd, vs) = .inl (g.2.2.2.2 (kd - 100), zAr g (zTy.getD (kd - 100) .int) vs) := by unfold zE; rw [if_neg h]
theorem zgetD_set {α : Type} (vs : List α) (i j : Nat) (v d : α) (hi : i < vs.length) : (vs.set i v).getD j d = if j = i then v else vs.getD j d := by
  rw [List.getD_eq_getElem?_getD, List.getD_eq_getElem?_getD]
  by_cases h : j = i
  · subst h
    rw [if_pos rfl, List.getElem?_set_self hi]; rfl
  · rw [if_neg h, List.getElem?_set_ne (fun q => h q.symm)]
section ZH
variable {zT zN : List Cond} {X : zX} {cc : ByteArray} {own : String} {k n pc : Nat} {ls : zL} {st : List Value} {h : zH}
theorem z_getfield (F : zF zT zN X cc own) {index ci j a : Nat} {fs : List Value} {v : Value} (L : zFld zT own index ci j) (hd : decode cc pc = .ok (.getfield index, 3)) (hc : h[a]? = some (ci, fs)) (hl : ci < 100) (hv : fs[j]? = some v) (K : Z X k n (pc + 3) ls (v :: st) h) : Z X k n pc ls (.ref a :: st) h := by
  obtain ⟨p, l, e, R, s, m, args, below, meth, c, Q, g, nL⟩ := X
  obtain ⟨C, T, N, hcl, hj, hw, hlk⟩ := L
  obtain ⟨hx, hb, hml, hown, hts, hnw, hK, hO, hg, hlo, htr⟩ := F
  intro la H locs hla hP hS
  by_cases ha : a < g.2.2.1.length
  · obtain ⟨r, h1, h2, h3⟩ := (hO a _ (zP_ro hP hc ha)).2 hl
    have hr : r = (C, T, N) := Option.some.inj (h1.symm.trans hcl)
    subst hr
    obtain ⟨cf, kf, i, f, cell, f1, f2, f3, f4, f5, f6⟩ := h3 j v hj hv
    have hz : zq g a = g.2.1 a := by simp [zq, ha]
    exact W.getf hx hb hown (hts _ hlk) f1 f2 (a := zq g a) (cell := cell) (v := zv g v) (by rw [hz, hS.2.1 _ (Array.getElem?_eq_some_iff.mp f3).1 f6]; exact f3) f4 f5 rfl rfl hd (K la H locs hla hP hS)
  · obtain ⟨hm, e, h1, h2, h3, h4⟩ := zP_at hP hc (Nat.not_lt.mp ha)
    rw [zE_obj g hl] at h4
    exact va_get (D := g.2.2.2.1) hx hb hts hw hown hK h1 _ h4 hcl j hj (hts _ hlk) (fun _ h9 => h9) (v := zv g v) (by rw [List.getElem?_map, hv]; rfl) hd (K la H locs hla hP hS)
theorem z_getfieldN (F : zF zT zN X cc own) {index ci j a : Nat} {fs : List Value} {v : Value} (L : zFldN zT zN own index ci j) (hd : decode cc pc = .ok (.getfield index, 3)) (hc : h[a]? = some (ci, fs)) (hl : ci < 100) (hv : fs[j]? = some v) (K : Z X k n (pc + 3) ls (v :: st) h) : Z X k n pc ls (.ref a :: st) h := by
  obtain ⟨p, l, e, R, s, m, args, below, meth, c, Q, g, nL⟩ := X
  obtain ⟨C, host, T, N, hcl, hj, hw, hlk⟩ := L
  obtain ⟨hx, hb, hml, hown, hts, hnw, hK, hO, hg, hlo, htr⟩ := F
  intro la H locs hla hP hS
  by_cases ha : a < g.2.2.1.length
  · obtain ⟨r, h1, h2, h3⟩ := (hO a _ (zP_ro hP hc ha)).2 hl
    have hr : r = (C, T, N) := Option.some.inj (h1.symm.trans hcl)
    subst hr
    obtain ⟨cf, kf, i, f, cell, f1, f2, f3, f4, f5, f6⟩ := h3 j v hj hv
    have hz : zq g a = g.2.1 a := by simp [zq, ha]
    exact va_Wgetf hx hb hown (va_Nw.use rfl (hnw _ hlk)) f1 f2 (a := zq g a) (cell := cell) (v := zv g v) (by rw [hz, hS.2.1 _ (Array.getElem?_eq_some_iff.mp f3).1 f6]; exact f3) f4 f5 rfl rfl hd (K la H locs hla hP hS)
  · obtain ⟨hm, e, h1, h2, h3, h4⟩ := zP_at hP hc (Nat.not_lt.mp ha)
    rw [zE_obj g hl] at h4
    exact va_getN (D := g.2.2.2.1) hx hb hts hw hown hK h1 _ h4 hcl j hj (va_Nw.use rfl (hnw _ hlk)) (fun _ h9 => h9) (v := zv g v) (by rw [List.getElem?_map, hv]; rfl) hd (K la H locs hla hP hS)
/-- a cell that may be written: not among the first ones -/
def zmut (X : zX) (a : Nat) : Prop := X.2.2.2.2.2.2.2.2.2.2.2.1.2.2.1.length ≤ a
theorem zP_size {g : zG} {h : zH} {H H1 : Heap} {hm : zH} (h2 : H.size = g.1 + hm.length) (hz : H1.size = H.size) : H1.size = g.1 + hm.length := hz.trans h2
theorem z_putfield (F : zF zT zN X cc own) {index ci j a : Nat} {ty : FieldType} {fs : List Value} {v : Value} (L : zPut zT own index ci j false ty) (hd : decode cc pc = .ok (.putfield index, 3)) (hmu : zmut X a) (hc : h[a]? = some (ci, fs)) (hl : ci < 100) (hj2 : j < fs.length) (hv : zfit ty v) (K : Z X k n (pc + 3) ls st (h.set a (ci, fs.set j v))) : Z X k n pc ls (v :: .ref a :: st) h := by
  obtain ⟨p, l, e, R, s, m, args, below, meth, c, Q, g, nL⟩ := X
  obtain ⟨C, T, N, ty0, hcl, hj, hw, hlk, hfin, hty, hty0, hnm, -⟩ := L
  obtain ⟨hx, hb, hml, hown, hts, hnw, hK, hO, hg, hlo, htr⟩ := F
  intro la H locs hla hP hS
  have ha : g.2.2.1.length ≤ a := hmu
  obtain ⟨hm, e, h1, h2, h3, h4⟩ := zP_at hP hc ha
  rw [zE_obj g hl] at h4
  have hf := zfit_v (g := g) hv
  refine va_put (D := g.2.2.2.1) hx hb hts hw ty0 hty0 hnm hown hK h1 (zD_ok g hm) hS _ h4 hcl j hj (hts _ hlk) (fun _ h9 => h9) hfin hty hf.1 hf.2 (by simpa using hj2) hd (fun H1 locs1 hP1 hD1 hS1 => ?_)
  rw [zset_map, ← zE_obj g hl] at hP1
  refine K la H1 locs1 hla (zP_set e ha hP1 ?_) hS1
  have := hP1
  sorry
end ZH
