/-! throwing: new X(text), thrown at once -/
theorem zN_use {args : Array Value} {s : State} {w : Cond} (hw : w ∈ zN) (h : va_Nw w s) : w.before args s = true := by
  have h9 := (List.mem_filter.mp hw).2
  cases w <;> first | exact va_Nw.use rfl h | (simp [zNok] at h9)
theorem zN_ot {w : Cond} (hw : w ∈ zN) : vx_ot w = true := by
  have h9 := (List.mem_filter.mp hw).2
  cases w <;> first | rfl | (simp [zNok] at h9)
theorem zT_ot {w : Cond} (hw : w ∈ zT) : vx_ot w = true := by
  have h9 := (List.mem_filter.mp hw).2
  unfold vx_ot
  rw [h9, Bool.or_true]
def zThr (own : String) (ik is ic : Nat) (cls text : String) (names : List String) : Prop := Bundle.fit cls = true ∧ (∀ n ∈ names, Bundle.fit n = true) ∧ Cond.classLink own ik cls ∈ zT ∧ Cond.initialized cls ∈ zT ∧ (own, is, text) ∈ zStr ∧ ∀ w ∈ vx_atS own ic cls names, w ∈ zT ∨ w ∈ zN ∨ (w = Cond.castable cls cls ∧ Cond.instantiable cls 6 ∈ zT)
theorem zThr_of {own : String} {ik is ic : Nat} {cls text : String} {names : List String} (h1 : Bundle.fit cls = true) (h2 : names.all (fun n => Bundle.fit n) = true) (h3 : Cond.classLink own ik cls ∈ zT) (h4 : Cond.initialized cls ∈ zT) (h5 : (own, is, text) ∈ zStr) (h8 : Cond.instantiable cls 6 ∈ zT) (h6 : ∀ w ∈ vx_atS own ic cls names, w = Cond.castable cls cls ∨ w ∈ lw_tbl) (h7 : ∀ w ∈ vx_atS own ic cls names, (goodWord w || zNok w) = true) : zThr own ik is ic cls text names := by
  refine ⟨h1, List.all_eq_true.mp h2, h3, h4, h5, fun w hw => ?_⟩
  rcases h6 w hw with h6 | h6
  · exact Or.inr (Or.inr ⟨h6, h8⟩)
  have h9 := h7 w hw
  rw [Bool.or_eq_true] at h9
  rcases h9 with h9 | h9
  · exact Or.inl (List.mem_filter.mpr ⟨h6, h9⟩)
  · exact Or.inr (Or.inl (List.mem_filter.mpr ⟨h6, h9⟩))
theorem zself {args : Array Value} {s : State} {C : String} {n : Nat} (h : (Cond.instantiable C n).before args s = true) : (Cond.castable C C).before args s = true := by
  obtain ⟨cC, kC, hfc, hk, hkind, -⟩ := Cond.instantiable_spec h
  have h1 := va_assign (s := s) (C := C) (cC := cC) ⟨hfc, kC, hk, hkind⟩
  simp only [Cond.before, Cond.holds, Cond.value, hfc, h1]
  rfl
section ZT
variable {X : zX} {cc : ByteArray} {own : String} {k n pc d mc ms : Nat} {ls : zL} {st : List Value} {h : zH} {P : Option Value → zH → Prop} {E : String → zH → Prop}
theorem z_throwS (F : zF zT zN X cc own) {ret : Option FieldType} {ik is ic : Nat} {cls text : String} {names : List String} (B : zB X d mc ms ret P E) (T : zThr own ik is ic cls text names)
    (d0 : decode cc pc = .ok (.new ik, 3)) (d3 : decode cc (pc + 3) = .ok (.dup, 1)) (d4 : decode cc (pc + 4) = .ok (.ldc is, 2)) (d6 : decode cc (pc + 6) = .ok (.invokespecial ic, 3)) (d9 : decode cc (pc + 9) = .ok (.athrow, 1))
    (hdf : names.length + 3 < d) (hst : (st.map (fun v => v.category)).sum + (13 * (names.length + 1) + 43) ≤ 60 * d) (hmc : k + 1 ≤ mc) (hms : n + 6 ≤ ms) (he : ∀ j, E cls (h ++ List.replicate j (98, []))) : Z X k n pc ls st h := by
  obtain ⟨p, l, e, R, s, m, args, below, meth, c, Q, g, nL⟩ := X
  obtain ⟨hx, hb, hml, hown, hts, hnw, hK, hO, hg, hlo, htr, hex⟩ := F
  obtain ⟨hR, rfl, hr, hxt⟩ := B
  obtain ⟨t1, t2, t3, t4, t5, t6⟩ := T
  obtain ⟨x0, x1, x2, x3, x4, x5, x6, x7⟩ := hex
  obtain ⟨sa, hsa⟩ := x2 _ t5
  subst hR
  intro la H locs hla hP hS
  have hcat : ((st.map (zv g)).map (fun v => v.category)).sum = (st.map (fun v => v.category)).sum := by
    rw [List.map_map]
    have : ((fun v => Value.category v) ∘ zv g) = (fun v => Value.category v) := funext fun v => zv_cat g v
    rw [this]
  exact vx_throwS (A := zA g) (names := names) hx hb htr hown t1 t2 (hts _ t3) (hts _ t4) hsa (fun w hw => (t6 w hw).elim (fun q => hts _ q) (fun q => q.elim (fun q => zN_use q (hnw _ q)) (fun q => by rw [q.1]; exact zself (hts _ q.2))))
    (fun w hw => by
      rcases List.mem_cons.mp hw with q | hw
      · rw [q]; exact zT_ot t3
      · rcases List.mem_cons.mp hw with q | hw
        · rw [q]; exact zT_ot t4
        · exact (t6 w hw).elim zT_ot (fun q => q.elim zN_ot (fun q => by rw [q.1]; rfl)))
    x4 x5 hS (hla.1.trans hml.symm) d0 d3 d4 d6 d9 (fun x hx => (hxt x hx).elim) hdf (by rw [hcat]; exact hst) hmc hms hlo
    (fun t hal hsz hold => ⟨_, he _, zP_junk hP hsz hold, ⟨Nat.le_trans hS.1 hsz, fun q h1 h2 => (hold q (Nat.lt_of_lt_of_le h1 hS.1)).trans (hS.2.1 q h1 h2)⟩⟩) hS.2.2 hmc hms
end ZT
