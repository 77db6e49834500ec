/-! the same, with the text by ldc_w -/
section ZT2
variable {X : zX} {cc : ByteArray} {own : String} {k n pc d mc ms : Nat} {ls : zL} {st : List Value} {h : zH} {P : Option Value → zH → Prop} {E : String → zH → Prop}
theorem z_throwSW (F : zF zT zN X cc own) {ret : Option FieldType} {ik is ic : Nat} {cls text : String} {names : List String} (B : zB X d mc ms ret P E) (T : zThr own ik is ic cls text names)
    (d0 : decode cc pc = .ok (.new ik, 3)) (d3 : decode cc (pc + 3) = .ok (.dup, 1)) (d4 : decode cc (pc + 4) = .ok (.ldc_w is, 3)) (d6 : decode cc (pc + 7) = .ok (.invokespecial ic, 3)) (d9 : decode cc (pc + 10) = .ok (.athrow, 1))
    (hdf : names.length + 3 < d) (hst : (st.map (fun v => v.category)).sum + (13 * (names.length + 1) + 43) ≤ 60 * d) (hmc : k + 1 ≤ mc) (hms : n + 6 ≤ ms) (he : ∀ j, E cls (h ++ List.replicate j (98, []))) : Z X k n pc ls st h := by
  obtain ⟨p, l, e, R, s, m, args, below, meth, c, Q, g, nL⟩ := X
  obtain ⟨hx, hb, hml, hown, hts, hnw, hK, hO, hg, hlo, htr, hex⟩ := F
  obtain ⟨hR, rfl, hr, hxt⟩ := B
  obtain ⟨t1, t2, t3, t4, t5, t6⟩ := T
  obtain ⟨x0, x1, x2, x3, x4, x5, x6, x7⟩ := hex
  obtain ⟨sa, hsa⟩ := x2 _ t5
  subst hR
  intro la H locs hla hP hS
  have hcat : ((st.map (zv g)).map (fun v => v.category)).sum = (st.map (fun v => v.category)).sum := by
    rw [List.map_map]
    have : ((fun v => Value.category v) ∘ zv g) = (fun v => Value.category v) := funext fun v => zv_cat g v
    rw [this]
  exact vx_throwSW (A := zA g) (names := names) hx hb htr hown t1 t2 (hts _ t3) (hts _ t4) hsa (fun w hw => (t6 w hw).elim (fun q => hts _ q) (fun q => q.elim (fun q => zN_use q (hnw _ q)) (fun q => by rw [q.1]; exact zself (hts _ q.2))))
    (fun w hw => by
      rcases List.mem_cons.mp hw with q | hw
      · rw [q]; exact zT_ot t3
      · rcases List.mem_cons.mp hw with q | hw
        · rw [q]; exact zT_ot t4
        · exact (t6 w hw).elim zT_ot (fun q => q.elim zN_ot (fun q => by rw [q.1]; rfl)))
    x4 x5 hS (hla.1.trans hml.symm) d0 d3 d4 d6 d9 (fun x hx => (hxt x hx).elim) hdf (by rw [hcat]; exact hst) hmc hms hlo
    (fun t hal hsz hold => ⟨_, he _, zP_junk hP hsz hold, ⟨Nat.le_trans hS.1 hsz, fun q h1 h2 => (hold q (Nat.lt_of_lt_of_le h1 hS.1)).trans (hS.2.1 q h1 h2)⟩⟩) hS.2.2 hmc hms
end ZT2
