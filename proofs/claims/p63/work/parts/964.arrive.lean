/-! mathematics: a ship arrives when the chart says so -/
section
variable {C D : zCo}
theorem nx_cg (h : D.1 = C.1) (t d c g : Nat) : f_nx D t d c g = f_nx C t d c g := by
  have e : f_opF D t d = f_opF C t d := by
    funext x
    unfold f_opF
    rw [h]
  unfold f_nx f_nx0
  rw [e]
theorem mins_1 : ∀ (n : Nat) (C : zCo), (f_mins n C).1 = C.1
  | 0, _ => rfl
  | n + 1, C => (mins_1 n (f_min C)).trans rfl
theorem mins_m : ∀ (n : Nat) (C : zCo), (f_mins n C).2.2.2.2.1 = C.2.2.2.2.1 + n
  | 0, _ => rfl
  | n + 1, C => by
    show (f_mins n (f_min C)).2.2.2.2.1 = _
    rw [mins_m n (f_min C)]
    show C.2.2.2.2.1 + 1 + n = _
    omega
theorem min_ship (D : zCo) {i : Nat} (hi : i < D.2.2.2.1.2) : (f_min D).2.2.1 i = f_sg1 (f_wk (f_mvC (f_tick D))) (f_wk1 (f_mvC (f_tick D)) (f_mv1 (f_tick D) (f_tide (f_tick D).2.2.2.2.1) (D.2.2.1 i))) := by
  rw [f_min_eq, sg_ship (f_wk (f_mvC (f_tick D))) (i := i) hi]
  have e2 : (f_wk (f_mvC (f_tick D))).2.2.1 i = f_wk1 (f_mvC (f_tick D)) ((f_mvC (f_tick D)).2.2.1 i) := if_pos hi
  have e1 : (f_mvC (f_tick D)).2.2.1 i = f_mv1 (f_tick D) (f_tide (f_tick D).2.2.2.2.1) (D.2.2.1 i) := if_pos hi
  rw [e2, e1]
theorem sg1_go (s : zSp) : (f_sg1 C s).1 = s.1 ∧ (f_sg1 C s).2.1 = s.2.1 ∧ (f_sg1 C s).2.2.1 = s.2.2.1 ∧ (f_sg1 C s).2.2.2.1 = s.2.2.2.1 := by
  unfold f_sg1
  split
  · exact ⟨rfl, rfl, rfl, rfl⟩
  · exact ⟨rfl, rfl, rfl, rfl⟩
/-- a minute of a ship under way -/
theorem min_way {i c d g : Nat} (h1 : D.1 = C.1) (hi : i < D.2.2.2.1.2) (hc : c < 64) (e1 : (D.2.2.1 i).1 = c) (e2 : (D.2.2.1 i).2.1 = d) (e3 : (D.2.2.1 i).2.2.1 = some g) (e4 : (D.2.2.1 i).2.2.2.1 = false) :
    ((f_min D).2.2.1 i).1 = f_nx C (f_tide (D.2.2.2.2.1 + 1)) d c g ∧ (f_nx C (f_tide (D.2.2.2.2.1 + 1)) d c g = g → ((f_min D).2.2.1 i).2.2.1 = none) ∧ (f_nx C (f_tide (D.2.2.2.2.1 + 1)) d c g ≠ g → ¬ f_ww C (f_nx C (f_tide (D.2.2.2.2.1 + 1)) d c g : Nat) (f_tide (D.2.2.2.2.1 + 1)) < d → ((f_min D).2.2.1 i).2.1 = d ∧ ((f_min D).2.2.1 i).2.2.1 = some g ∧ ((f_min D).2.2.1 i).2.2.2.1 = false) := by
  have hx : f_nx C (f_tide (D.2.2.2.2.1 + 1)) d c g < 64 := f_nx_lt hc
  have em : f_mv1 (f_tick D) (f_tide (f_tick D).2.2.2.2.1) (D.2.2.1 i) = (f_nx C (f_tide (D.2.2.2.2.1 + 1)) d c g, d, (if f_nx C (f_tide (D.2.2.2.2.1 + 1)) d c g = g then none else some g), false, (D.2.2.1 i).2.2.2.2) := by
    unfold f_mv1
    rw [e3]
    dsimp only
    rw [e4, if_neg (by decide), e1, e2, nx_cg (C := C) (D := f_tick D) h1]
    rfl
  have hww : f_wa (f_mvC (f_tick D)) (f_nx C (f_tide (D.2.2.2.2.1 + 1)) d c g) = f_ww C (f_nx C (f_tide (D.2.2.2.2.1 + 1)) d c g : Nat) (f_tide (D.2.2.2.2.1 + 1)) := by
    have hd : f_dep (f_mvC (f_tick D)) (f_nx C (f_tide (D.2.2.2.2.1 + 1)) d c g : Nat) = f_dep C (f_nx C (f_tide (D.2.2.2.2.1 + 1)) d c g : Nat) := by
      unfold f_dep
      rw [show (f_mvC (f_tick D)).1 = C.1 from h1]
    show f_ww (f_mvC (f_tick D)) (f_nx C (f_tide (D.2.2.2.2.1 + 1)) d c g : Nat) (f_tide (D.2.2.2.2.1 + 1)) = _
    unfold f_ww
    rw [hd]
  rw [min_ship D hi, em]
  generalize f_nx C (f_tide (D.2.2.2.2.1 + 1)) d c g = x at *
  obtain ⟨s1, s2, s3, s4⟩ := sg1_go (C := f_wk (f_mvC (f_tick D))) (f_wk1 (f_mvC (f_tick D)) (x, d, (if x = g then none else some g), false, (D.2.2.1 i).2.2.2.2))
  rw [s1, s2, s3, s4]
  unfold f_wk1
  dsimp only
  rw [hww]
  by_cases q : f_ww C (x : Nat) (f_tide (D.2.2.2.2.1 + 1)) < d
  · rw [if_pos ⟨rfl, q⟩]
    exact ⟨rfl, fun _ => rfl, fun _ h => absurd q h⟩
  · rw [if_neg (fun h => q h.2)]
    exact ⟨rfl, fun h => if_pos h, fun h _ => ⟨rfl, if_neg h, rfl⟩⟩
theorem arr_go {i d g : Nat} (hi : i < C.2.2.2.1.2) : ∀ {n j c m : Nat}, c < 64 → c ≠ g → ((f_mins j C).2.2.1 i).1 = c → ((f_mins j C).2.2.1 i).2.1 = d → ((f_mins j C).2.2.1 i).2.2.1 = some g → ((f_mins j C).2.2.1 i).2.2.2.1 = false → f_arr C d g n (j + 1) c = some m → (j + 1 ≤ m ∧ m ≤ j + n) ∧ ((f_mins m C).2.2.1 i).1 = g ∧ ((f_mins m C).2.2.1 i).2.2.1 = none ∧ ((f_mins (m - 1) C).2.2.1 i).1 ≠ g
  | 0, j, c, m, _, _, _, _, _, _, h => by cases h
  | n + 1, j, c, m, hc, hg, e1, e2, e3, e4, h => by
    have hcnt : i < (f_mins j C).2.2.2.1.2 := by rw [f_mins_cnt]; exact hi
    obtain ⟨w1, w2, w3⟩ := min_way (C := C) (mins_1 j C) hcnt hc e1 e2 e3 e4
    rw [mins_m, Nat.add_assoc] at w1 w2 w3
    rw [← f_mins_end] at w1 w2 w3
    have eq : f_arr C d g (n + 1) (j + 1) c = if f_nx C (f_tide (C.2.2.2.2.1 + (j + 1))) d c g = g then some (j + 1) else if f_ww C (f_nx C (f_tide (C.2.2.2.2.1 + (j + 1))) d c g) (f_tide (C.2.2.2.2.1 + (j + 1))) < d then none else f_arr C d g n (j + 1 + 1) (f_nx C (f_tide (C.2.2.2.2.1 + (j + 1))) d c g) := rfl
    rw [eq] at h
    have hx : f_nx C (f_tide (C.2.2.2.2.1 + (j + 1))) d c g < 64 := f_nx_lt hc
    generalize f_nx C (f_tide (C.2.2.2.2.1 + (j + 1))) d c g = x at *
    by_cases q : x = g
    · rw [if_pos q] at h
      cases h
      exact ⟨⟨Nat.le_refl _, by omega⟩, w1.trans q, w2 q, by rw [show j + 1 - 1 = j from rfl, e1]; exact hg⟩
    · rw [if_neg q] at h
      by_cases q2 : f_ww C (x : Nat) (f_tide (C.2.2.2.2.1 + (j + 1))) < d
      · rw [if_pos q2] at h
        cases h
      · rw [if_neg q2] at h
        obtain ⟨v1, v2, v3⟩ := w3 q q2
        obtain ⟨⟨r1, r2⟩, r3⟩ := arr_go hi (n := n) hx q w1 v1 v2 v3 h
        exact ⟨⟨by omega, by omega⟩, r3⟩
end
theorem hArr_of {K : Nat} {C : zCo} (hG : zGd K C) {i : Nat} (hi : i < C.2.2.2.1.2) : hArr C i := by
  have hc := (hG.1.2.2.1 i).1
  obtain ⟨-, hw, hn⟩ := hG.2.2.1 i hi
  have eq : g_arr C (i : Int) = match (C.2.2.1 i).2.2.1 with | none => -1000 | some g => zNo (f_arr C (C.2.2.1 i).2.1 g 48 1 (C.2.2.1 i).1) := by
    unfold g_arr
    rw [if_pos (by omega)]
    rfl
  unfold hArr
  rw [eq]
  cases hg : (C.2.2.1 i).2.2.1 with
  | none => exact Or.inl rfl
  | some g =>
    dsimp only
    have hwf : (C.2.2.1 i).2.2.2.1 = false := by
      cases e : (C.2.2.1 i).2.2.2.1 with
      | false => rfl
      | true =>
        have := hw e
        rw [hg] at this
        cases this
    cases hf : f_arr C (C.2.2.1 i).2.1 g 48 1 (C.2.2.1 i).1 with
    | none => exact Or.inl rfl
    | some m =>
      obtain ⟨⟨r1, r2⟩, r3, r4, r5⟩ := arr_go (C := C) hi (n := 48) (j := 0) (g := g) hc (fun e => hn (by rw [hg, e])) rfl rfl hg hwf hf
      exact Or.inr ⟨m, g, rfl, ⟨by omega, by omega⟩, rfl, r3, r4, fun _ => r5⟩
theorem hfits : hFits := fun K C hG => ⟨hDep_of hG.1, hDep_of (f_min_ok hG.1), hFew_of hG.1, fun i hi => hArr_of hG hi⟩
