/-! throws of the exceptions whose constructor hands on by another link -/
def zThrG (own : String) (ik is ic : Nat) (cls text : String) (ix : Nat) (bs : ByteArray) (Yc : String) (r : List String) : Prop := Bundle.fit cls = true ∧ (∀ n ∈ Yc :: r, Bundle.fit n = true) ∧ Cond.classLink own ik cls ∈ zT ∧ Cond.initialized cls ∈ zT ∧ (own, is, text) ∈ zStr ∧ (∀ w ∈ zatG own ic cls ix bs Yc r, w ∈ zT ∨ w ∈ zN ∨ (w = Cond.castable cls cls ∧ Cond.instantiable cls 6 ∈ zT)) ∧ decode bs 0 = .ok (.aload_n 0, 1) ∧ decode bs 1 = .ok (.aload_n 1, 1) ∧ decode bs 2 = .ok (.invokespecial ix, 3) ∧ decode bs 5 = .ok (.return_, 1)

theorem zThrG_of {own : String} {ik is ic ix : Nat} {cls text Yc : String} {r : List String} {bs : ByteArray} (h1 : Bundle.fit cls = true) (h2 : (Yc :: r).all (fun n => Bundle.fit n) = true) (h3 : Cond.classLink own ik cls ∈ zT) (h4 : Cond.initialized cls ∈ zT) (h5 : (own, is, text) ∈ zStr) (h8 : Cond.instantiable cls 6 ∈ zT) (h6 : ∀ w ∈ zatG own ic cls ix bs Yc r, w = Cond.castable cls cls ∨ w ∈ lw_tbl) (h7 : ∀ w ∈ zatG own ic cls ix bs Yc r, (goodWord w || zNok w) = true) (b0 : decode bs 0 = .ok (.aload_n 0, 1)) (b1 : decode bs 1 = .ok (.aload_n 1, 1)) (b2 : decode bs 2 = .ok (.invokespecial ix, 3)) (b5 : decode bs 5 = .ok (.return_, 1)) : zThrG own ik is ic cls text ix bs Yc r := by
  refine ⟨h1, List.all_eq_true.mp h2, h3, h4, h5, fun w hw => ?_, b0, b1, b2, b5⟩
  rcases h6 w hw with h6 | h6
  · exact Or.inr (Or.inr ⟨h6, h8⟩)
  have h9 := h7 w hw
  rw [Bool.or_eq_true] at h9
  rcases h9 with h9 | h9
  · exact Or.inl (List.mem_filter.mpr ⟨h6, h9⟩)
  · exact Or.inr (Or.inl (List.mem_filter.mpr ⟨h6, h9⟩))

section ZTH
variable {X : zX} {cc : ByteArray} {own : String} {k n pc d mc ms : Nat} {ls : zL} {st : List Value} {h : zH} {P : Option Value → zH → Prop} {E : String → zH → Prop}
theorem z_throwG (F : zF zT zN X cc own) {ret : Option FieldType} {ik is ic : Nat} {cls text : String} {ix : Nat} {bs : ByteArray} {Yc : String} {r : List String} (B : zB X d mc ms ret P E) (T : zThrG own ik is ic cls text ix bs Yc r)
    (d0 : decode cc pc = .ok (.new ik, 3)) (d3 : decode cc (pc + 3) = .ok (.dup, 1)) (d4 : decode cc (pc + 4) = .ok (.ldc is, 2)) (d6 : decode cc (pc + 6) = .ok (.invokespecial ic, 3)) (d9 : decode cc (pc + 9) = .ok (.athrow, 1))
    (hdf : (Yc :: r).length + 3 < d) (hst : (st.map (fun v => v.category)).sum + (13 * ((Yc :: r).length + 1) + 43) ≤ 60 * d) (hmc : k + 1 ≤ mc) (hms : n + 6 ≤ ms) (he : ∀ j, E cls (h ++ List.replicate j (98, []))) : Z X k n pc ls st h := by
  obtain ⟨p, l, e, R, s, m, args, below, meth, c, Q, g, nL⟩ := X
  obtain ⟨hx, hb, hml, hown, hts, hnw, hK, hO, hg, hlo, htr, hex⟩ := F
  obtain ⟨hR, rfl, hr, hxt⟩ := B
  obtain ⟨t1, t2, t3, t4, t5, t6, b0, b1, b2, b5⟩ := T
  obtain ⟨x0, x1, x2, x3, x4, x5, x6, x7⟩ := hex
  obtain ⟨sa, hsa⟩ := x2 _ t5
  subst hR
  intro la H locs hla hP hS
  have hcat : ((st.map (zv g)).map (fun v => v.category)).sum = (st.map (fun v => v.category)).sum := by
    rw [List.map_map]
    have : ((fun v => Value.category v) ∘ zv g) = (fun v => Value.category v) := funext fun v => zv_cat g v
    rw [this]
  exact zvx_throwS (A := zA g) (Yc := Yc) (r := r) hx hb htr b0 b1 b2 b5 hown t1 t2 (hts _ t3) (hts _ t4) hsa (fun w hw => (t6 w hw).elim (fun q => hts _ q) (fun q => q.elim (fun q => zN_use q (hnw _ q)) (fun q => by rw [q.1]; exact zself (hts _ q.2))))
    (fun w hw => by
      rcases List.mem_cons.mp hw with q | hw
      · rw [q]; exact zT_ot t3
      · rcases List.mem_cons.mp hw with q | hw
        · rw [q]; exact zT_ot t4
        · exact (t6 w hw).elim zT_ot (fun q => q.elim zN_ot (fun q => by rw [q.1]; rfl)))
    x4 x5 hS (hla.1.trans hml.symm) d0 d3 d4 d6 d9 (fun x hx => (hxt x hx).elim) hdf (by rw [hcat]; exact hst) hmc hms hlo
    (fun t hal hsz hold => ⟨_, he _, zP_junk hP hsz hold, ⟨Nat.le_trans hS.1 hsz, fun q h1 h2 => (hold q (Nat.lt_of_lt_of_le h1 hS.1)).trans (hS.2.1 q h1 h2)⟩⟩) hS.2.2 hmc hms
theorem z_throwGW (F : zF zT zN X cc own) {ret : Option FieldType} {ik is ic : Nat} {cls text : String} {ix : Nat} {bs : ByteArray} {Yc : String} {r : List String} (B : zB X d mc ms ret P E) (T : zThrG own ik is ic cls text ix bs Yc r)
    (d0 : decode cc pc = .ok (.new ik, 3)) (d3 : decode cc (pc + 3) = .ok (.dup, 1)) (d4 : decode cc (pc + 4) = .ok (.ldc_w is, 3)) (d6 : decode cc (pc + 7) = .ok (.invokespecial ic, 3)) (d9 : decode cc (pc + 10) = .ok (.athrow, 1))
    (hdf : (Yc :: r).length + 3 < d) (hst : (st.map (fun v => v.category)).sum + (13 * ((Yc :: r).length + 1) + 43) ≤ 60 * d) (hmc : k + 1 ≤ mc) (hms : n + 6 ≤ ms) (he : ∀ j, E cls (h ++ List.replicate j (98, []))) : Z X k n pc ls st h := by
  obtain ⟨p, l, e, R, s, m, args, below, meth, c, Q, g, nL⟩ := X
  obtain ⟨hx, hb, hml, hown, hts, hnw, hK, hO, hg, hlo, htr, hex⟩ := F
  obtain ⟨hR, rfl, hr, hxt⟩ := B
  obtain ⟨t1, t2, t3, t4, t5, t6, b0, b1, b2, b5⟩ := T
  obtain ⟨x0, x1, x2, x3, x4, x5, x6, x7⟩ := hex
  obtain ⟨sa, hsa⟩ := x2 _ t5
  subst hR
  intro la H locs hla hP hS
  have hcat : ((st.map (zv g)).map (fun v => v.category)).sum = (st.map (fun v => v.category)).sum := by
    rw [List.map_map]
    have : ((fun v => Value.category v) ∘ zv g) = (fun v => Value.category v) := funext fun v => zv_cat g v
    rw [this]
  exact zvx_throwSW (A := zA g) (Yc := Yc) (r := r) hx hb htr b0 b1 b2 b5 hown t1 t2 (hts _ t3) (hts _ t4) hsa (fun w hw => (t6 w hw).elim (fun q => hts _ q) (fun q => q.elim (fun q => zN_use q (hnw _ q)) (fun q => by rw [q.1]; exact zself (hts _ q.2))))
    (fun w hw => by
      rcases List.mem_cons.mp hw with q | hw
      · rw [q]; exact zT_ot t3
      · rcases List.mem_cons.mp hw with q | hw
        · rw [q]; exact zT_ot t4
        · exact (t6 w hw).elim zT_ot (fun q => q.elim zN_ot (fun q => by rw [q.1]; rfl)))
    x4 x5 hS (hla.1.trans hml.symm) d0 d3 d4 d6 d9 (fun x hx => (hxt x hx).elim) hdf (by rw [hcat]; exact hst) hmc hms hlo
    (fun t hal hsz hold => ⟨_, he _, zP_junk hP hsz hold, ⟨Nat.le_trans hS.1 hsz, fun q h1 h2 => (hold q (Nat.lt_of_lt_of_le h1 hS.1)).trans (hS.2.1 q h1 h2)⟩⟩) hS.2.2 hmc hms
end ZTH
