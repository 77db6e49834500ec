/-! System.arraycopy of ints -/
section VCP
variable {p : Program} {l : Launch} {e : Env} {R : Room} {s : State} {m : MethodId} {args : Array Value} {below : List Frame} {meth : Method} {c : Code} {H : Heap} {locs : List Loc} {cells slots : Nat} {Q : State → Prop}
variable {cc : ByteArray} {pc : Nat} {ls : Array Slot} {rest : List Value} {a : Nat}
theorem va_copyK {cc : ByteArray} (hexec : p.tables.exec = Jvm.exec) (hb : c.code = cc) (hml : c.maxLocals = ls.size) {own : String} {index : Nat} (hown : s.vm.findClass own = some m.cls) (hlink : (Cond.methodLink own index arraycopyName).before args s = true) (hnat : (Cond.native arraycopyName).before args s = true) (hstat : (Cond.static arraycopyName).before args s = true) (hini : (Cond.initialized "java/lang/System").before args s = true)
    {a0 : Nat} {c0 c1 : ClassId} {n0 n1 : Nat} {f g : Nat → Int32} {ty : FieldType} (hA0 : ArrOfT s c0 ty) (hA1 : ArrOfT s c1 ty) (hc0 : H[a0]? = some (vp_cell c0 (n0, .inl f))) (hc1 : H[a]? = some (vp_cell c1 (n1, .inl g))) (hprim : refKind ty = false)
    {sp dp n : Int32} (h1 : ¬ sp < 0) (h2 : ¬ dp < 0) (h3 : ¬ n < 0) (h4 : sp.toNatClampNeg + n.toNatClampNeg ≤ n0) (h5 : dp.toNatClampNeg + n.toNatClampNeg ≤ n1) (hfit : ∀ i, i < n.toNatClampNeg → fits ty (.int (f (sp.toNatClampNeg + i))) = true)
    (hframes : 1 ≤ R.frames) (hlocals : (rest.map fun v => v.category).sum + (nativeFrameWords "java/lang/System" "arraycopy" 5 + 11) ≤ R.locals) (hdg : decode cc pc = .ok (.invokestatic index, 3))
    (kk : ∀ (H1 : Heap) (locs1 : List Loc), H1[a]? = some (vp_cell c1 (n1, .inl (va_cpy f g sp.toNatClampNeg dp.toNatClampNeg n.toNatClampNeg))) → H1.size = H.size → (∀ q : Nat, q ≠ a → H1[q]? = H[q]?) → (∀ q ∈ locs1, q ∈ locs ∨ q.base = a) → W p l e R s m args below meth c H1 locs1 cells slots Q (F0 m (pc + 3) ls rest)) : W p l e R s m args below meth c H locs cells slots Q (F0 m pc ls (.int n :: .int dp :: .ref a :: .int sp :: .ref a0 :: rest)) := by
  have nn : ∀ z : Int32, ¬ z < 0 → z.toInt = (z.toNatClampNeg : Int) := by
    intro z hz
    have hz0 : (0 : Int) ≤ z.toInt := by
      have := Int32.not_lt.mp hz
      simpa using Int32.le_iff_toInt_le.mp this
    show z.toInt = ((z.toInt.toNat : Nat) : Int)
    omega
  intro T hT X
  obtain ⟨-, k0, hk0, cm0, hkk0⟩ := hA0 n0 (fun j => .int (f j))
  obtain ⟨-, k1, hk1, cm1, hkk1⟩ := hA1 n1 (fun j => .int (g j))
  obtain ⟨vm', X', step⟩ := X.arraycopy hexec hown hlink hnat hstat hini (src := a0) (dst := a) (cs := vp_cell c0 (n0, .inl f)) (cd := vp_cell c1 (n1, .inl g)) (srcPos := sp) (destPos := dp) (n := n) (by rw [hT]; exact hc0) (by rw [hT]; exact hc1)
    (fun _ h => by cases h) (fun _ h => by cases h) (fun h => by cases h) (fun h => by cases h) hk0 hk1 hkk0 hkk1 (by simp [hprim]) h1 h2 h3
    (by rw [nn sp h1, nn n h3]; show ¬ _ > ((arrV c0 n0 (fun j => .int (f j))).slots.size : Int); rw [arrV_size]; omega)
    (by rw [nn dp h2, nn n h3]; show ¬ _ > ((arrV c1 n1 (fun j => .int (g j))).slots.size : Int); rw [arrV_size]; omega)
    (fun vm₁ _ i hi => by
      have e : (vp_cell c0 (n0, .inl f)).slots.getD (sp.toNatClampNeg + i) .null = .int (f (sp.toNatClampNeg + i)) := by
        show (arrV c0 n0 (fun j => .int (f j))).slots.getD _ _ = _
        rw [Array.getD_eq_getD_getElem?, arrV_read _ _ (by omega)]
        rfl
      refine ⟨?_, ?_⟩
      · rw [e]
        exact hfit i hi
      · rw [e]
        exact trivial)
    (g := F0 m pc ls (.int n :: .int dp :: .ref a :: .int sp :: .ref a0 :: rest)) rfl (by rw [hml]) (rest := rest) rfl (by rw [hb]; exact hdg) hframes (by show 2 * 0 + _ + _ ≤ _; omega)
  have e1 : copied (vp_cell c0 (n0, .inl f)) (vp_cell c1 (n1, .inl g)) sp dp n = vp_cell c1 (n1, .inl (va_cpy f g sp.toNatClampNeg dp.toNatClampNeg n.toNatClampNeg)) := va_copied (fun z => .int z) c0 c1 f g h4
  rw [e1] at X' step
  have hl : a < H.size := (Array.getElem?_eq_some_iff.mp hc1).1
  have hheap : ((T.setVm vm').setCell a (vp_cell c1 (n1, .inl (va_cpy f g sp.toNatClampNeg dp.toNatClampNeg n.toNatClampNeg)))).heap = H.setIfInBounds a (vp_cell c1 (n1, .inl (va_cpy f g sp.toNatClampNeg dp.toNatClampNeg n.toNatClampNeg))) := by rw [← hT]; rfl
  have oq : ∀ q : Nat, q ≠ a → (H.setIfInBounds a (vp_cell c1 (n1, .inl (va_cpy f g sp.toNatClampNeg dp.toNatClampNeg n.toNatClampNeg))))[q]? = H[q]? := fun q hq => by simp [Array.getElem?_setIfInBounds, Ne.symm hq]
  obtain ⟨t, a1, b1⟩ := kk (H.setIfInBounds a (vp_cell c1 (n1, .inl (va_cpy f g sp.toNatClampNeg dp.toNatClampNeg n.toNatClampNeg)))) _ (show (H.setIfInBounds a _)[a]? = some _ by simp [Array.getElem?_setIfInBounds, hl]) (by simp) oq (fun q hq => by
      rcases List.mem_append.mp hq with h | h
      · exact Or.inl h
      · obtain ⟨z, -, hz⟩ := List.mem_map.mp h
        exact Or.inr (by rw [← hz])) _ hheap X'
  exact ⟨t, step t a1, b1⟩
end VCP
theorem zar_zi (g : zG) (n : Nat) (F0 : Nat → Int32) : zAr g .int (zar n (fun j => .int (F0 j))) = (n, .inl (fun j => if j < n then F0 j else 0)) := by
  unfold zAr
  rw [zar_len]
  show (n, Sum.inl (fun j => zi ((zar n fun j => Value.int (F0 j)).getD j Value.null))) = _
  congr 2
  funext j
  unfold zar
  by_cases hj : j < n
  · simp [hj, zi]
  · simp [hj, zi]
section ZC
variable {X : zX} {cc : ByteArray} {own : String} {k n pc d mc ms : Nat} {ls : zL} {st : List Value} {h : zH}
theorem zcopyw {st : List Value} {g : zG} (hre : (st.map (fun v => v.category)).sum ≤ 8) {d : Nat} (hd1 : 1 ≤ d) : ((st.map (zv g)).map fun v => v.category).sum + (nativeFrameWords "java/lang/System" "arraycopy" 5 + 11) ≤ 60 * d := by
  have := zrest_ok (g := g) hre
  have h2 : nativeFrameWords "java/lang/System" "arraycopy" 5 + 11 ≤ 52 := by decide +kernel
  omega
theorem z_acopy (F : zF zT zN X cc own) {a a0 index : Nat} {F0 G0 : Nat → Int32} (hd : decode cc pc = .ok (.invokestatic index, 3)) (hlk : Cond.methodLink own index arraycopyName ∈ zT) (hnat : Cond.native arraycopyName ∈ zT) (hst : Cond.static arraycopyName ∈ zT) (hin : Cond.initialized "java/lang/System" ∈ zT) (hR : X.2.2.2.1 = zRm d mc ms) (hd1 : 1 ≤ d) (hmu : zmut X a) (hm0 : zmut X a0) (hc0 : h[a0]? = some (100, zar 64 (fun j => .int (F0 j)))) (hc : h[a]? = some (100, zar 64 (fun j => .int (G0 j)))) (hre : (st.map (fun v => v.category)).sum ≤ 8) (K : Z X k n (pc + 3) ls st (h.set a (100, zar 64 (fun j => .int (F0 j))))) : Z X k n pc ls (.int (iI 64) :: .int (iI 0) :: .ref a :: .int (iI 0) :: .ref a0 :: st) h := by
  obtain ⟨p, l, e, R, s, m, args, below, meth, c, Q, g, nL⟩ := X
  have hR : R = zRm d mc ms := hR
  subst hR
  intro la H locs hl hP hS
  have ha : g.2.2.1.length ≤ a := hmu
  have ha0 : g.2.2.1.length ≤ a0 := hm0
  have hK : va_K g.2.2.2.1 zCl (zTys g) s := F.2.2.2.2.2.2.1
  have h5 := zP_at hP hc ha (show (100 : Nat) ≠ 98 by decide)
  have h50 := zP_at hP hc0 ha0 (show (100 : Nat) ≠ 98 by decide)
  rw [zE_arr g (by decide), show zTy.getD (100 - 100) .int = .int from rfl, zar_zi] at h5 h50
  have hA := (hK.2 _ _ (zTys_get g (t := 100 - 100) (by decide))).1
  refine va_copyK F.1 F.2.1 (F.2.2.1.trans hl.1.symm) F.2.2.2.1 (F.2.2.2.2.1 _ hlk) (F.2.2.2.2.1 _ hnat) (F.2.2.2.2.1 _ hst) (F.2.2.2.2.1 _ hin) hA hA h50 h5 rfl (by decide) (by decide) (by decide) (by decide) (by decide) (fun i _ => rfl) hd1 (zcopyw hre hd1) hd ?_
  intro H1 locs1 e1 z oq hl1
  refine K la H1 locs1 hl (zP_put hP hc ha ?_ z oq) ⟨by rw [z]; exact hS.1, fun q g1 g2 => ?_, fun q hq => ?_⟩
  · rw [zE_arr g (by decide), show zTy.getD (100 - 100) .int = .int from rfl, zar_zi]
    show H1[zq g a]? = some (vp_cell _ _)
    rw [e1]
    congr 4
    funext j
    show va_cpy _ _ 0 0 64 j = _
    unfold va_cpy
    by_cases hj : j < 64
    · simp [hj]
    · simp [hj]
  · rw [oq q (fun e9 => g2 (by show g.1 ≤ q; rw [e9, zq_mut ha]; omega))]
    exact hS.2.1 q g1 g2
  · rcases hl1 q hq with h9 | h9
    · exact hS.2.2 q h9
    · show g.1 ≤ q.base
      rw [h9, zq_mut ha]; omega
/-- a field written again, of the object written last -/
theorem zi_putS (F : zF zT zN X cc own) {index ci j a : Nat} {ty : FieldType} {fs : List Value} {v : Value} {c0 : zC} (L : zPut zT own index ci j false ty) (hd : decode cc pc = .ok (.putfield index, 3)) (hmu : zmut X a) (hc : h[a]? = some c0) (hl : ci < 90) (hj2 : j < fs.length) (hv : zfit ty v) (K : Z X k n (pc + 3) ls st (h.set a (ci, fs.set j v))) : Z X k n pc ls (v :: .ref a :: st) (h.set a (ci, fs)) := z_putfield F L hd hmu (zset_same hc) hl hj2 hv (by rw [List.set_set]; exact K)
end ZC
theorem zw_aci : Cond.initialized "java/lang/System" ∈ zT := zT_i 48 (by decide +kernel) (by decide +kernel)
theorem zw_acl : Cond.methodLink RX2 29 arraycopyName ∈ zT := zT_i 375 (by decide +kernel) (by decide +kernel)
theorem zw_acs : Cond.static arraycopyName ∈ zT := zT_i 376 (by decide +kernel) (by decide +kernel)
theorem zw_acn : Cond.native arraycopyName ∈ zT := zT_i 377 (by decide +kernel) (by decide +kernel)
