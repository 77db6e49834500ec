/-! what a minute does, as the law counts it -/
theorem add_or (a b : Nat) (x y : Bool) (h : x = true → y = false) : a + b + (if (x || y) = true then 1 else 0) = a + (if x = true then 1 else 0) + (b + (if y = true then 1 else 0)) := by
  cases x with
  | true =>
    rw [h rfl]
    show a + b + 1 = a + 1 + (b + 0)
    omega
  | false =>
    cases y with
    | true =>
      show a + b + 1 = a + 0 + (b + 1)
      omega
    | false =>
      show a + b + 0 = a + 0 + (b + 0)
      omega
section
variable {C : zCo}
theorem lsw_sg (C : zCo) (c : Nat) : f_lsw (f_sg C) c = f_lsw C c := by
  unfold f_lsw
  exact zcnt_eqn _ fun l _ => f_swp_cg (C := C) (C' := f_sg C) rfl rfl rfl rfl rfl rfl c
theorem sg_ship (C : zCo) {i : Nat} (hi : i < C.2.2.2.1.2) : (f_sg C).2.2.1 i = f_sg1 C (C.2.2.1 i) := if_pos hi
theorem sg1_w (s : zSp) : (f_sg1 C s).2.2.2.1 = s.2.2.2.1 ∧ (f_sg1 C s).1 = s.1 := by
  unfold f_sg1
  split
  · exact ⟨rfl, rfl⟩
  · exact ⟨rfl, rfl⟩
theorem sgn_sg (C : zCo) {i : Nat} (hi : i < C.2.2.2.1.2) : f_sgn (f_sg C) i = f_sgn C i := by
  unfold f_sgn
  rw [sg_ship C hi, (sg1_w _).1, (sg1_w _).2, lsw_sg]
theorem mv1_w (t : Nat) (s : zSp) : (f_mv1 C t s).2.2.2.1 = s.2.2.2.1 := by
  unfold f_mv1
  split
  · rfl
  · split
    · rfl
    · rename_i h
      rw [Bool.not_eq_true] at h
      exact h.symm
theorem min_sg (C : zCo) : (f_min C).2.2.2.2.2.1 = C.2.2.2.2.2.1 + zsum (f_sgn (f_min C)) C.2.2.2.1.2 := by
  rw [f_min_eq]
  show C.2.2.2.2.2.1 + zsum (f_sgn (f_wk (f_mvC (f_tick C)))) C.2.2.2.1.2 = _
  congr 1
  exact zsum_congr _ fun i hi => (sgn_sg (f_wk (f_mvC (f_tick C))) hi).symm
theorem min_dark (C : zCo) {i : Nat} (hi : i < C.2.2.2.1.2) (hw : ((f_min C).2.2.1 i).2.2.2.1 = false) : ((f_min C).2.2.1 i).2.2.2.2 = 0 ↔ 0 < f_lsw (f_min C) ((f_min C).2.2.1 i).1 := by
  rw [f_min_eq] at hw ⊢
  have e3 := sg_ship (f_wk (f_mvC (f_tick C))) (i := i) hi
  rw [e3, (sg1_w _).1] at hw
  rw [lsw_sg, e3, (sg1_w _).2]
  unfold f_sg1
  rw [hw]
  show (if f_lsw _ _ = 0 then _ else 0) = 0 ↔ _
  by_cases e : f_lsw (f_wk (f_mvC (f_tick C))) ((f_wk (f_mvC (f_tick C))).2.2.1 i).1 = 0
  · rw [if_pos e]
    omega
  · rw [if_neg e]
    omega
theorem min_wk (C : zCo) : (f_min C).2.2.2.2.2.2.2.1 + zcnt (fun i => (C.2.2.1 i).2.2.2.1) C.2.2.2.1.2 = C.2.2.2.2.2.2.2.1 + zcnt (fun i => ((f_min C).2.2.1 i).2.2.2.1) C.2.2.2.1.2 := by
  have h1 : zcnt (fun i => ((f_min C).2.2.1 i).2.2.2.1) C.2.2.2.1.2 = zcnt (fun i => (C.2.2.1 i).2.2.2.1 || f_wkn (f_mvC (f_tick C)) i) C.2.2.2.1.2 := by
    refine zcnt_eqn _ fun i hi => ?_
    rw [f_min_eq, sg_ship (f_wk (f_mvC (f_tick C))) (i := i) hi, (sg1_w _).1]
    have e2 : (f_wk (f_mvC (f_tick C))).2.2.1 i = f_wk1 (f_mvC (f_tick C)) ((f_mvC (f_tick C)).2.2.1 i) := if_pos hi
    have e1 : (f_mvC (f_tick C)).2.2.1 i = f_mv1 (f_tick C) (f_tide (f_tick C).2.2.2.2.1) (C.2.2.1 i) := if_pos hi
    have ew : ((f_mvC (f_tick C)).2.2.1 i).2.2.2.1 = (C.2.2.1 i).2.2.2.1 := by rw [e1]; exact mv1_w _ _
    rw [e2]
    unfold f_wk1 f_wkn
    by_cases h : ((f_mvC (f_tick C)).2.2.1 i).2.2.2.1 = false ∧ f_wa (f_mvC (f_tick C)) ((f_mvC (f_tick C)).2.2.1 i).1 < ((f_mvC (f_tick C)).2.2.1 i).2.1
    · rw [if_pos h, decide_eq_true h, Bool.or_true]
    · rw [if_neg h, decide_eq_false h, Bool.or_false]
      exact ew
  have h2 : ∀ n, zcnt (fun i => (C.2.2.1 i).2.2.2.1 || f_wkn (f_mvC (f_tick C)) i) n = zcnt (fun i => (C.2.2.1 i).2.2.2.1) n + zcnt (f_wkn (f_mvC (f_tick C))) n ∨ C.2.2.2.1.2 < n := fun n => by
    by_cases hn : C.2.2.2.1.2 < n
    · exact Or.inr hn
    refine Or.inl ?_
    induction n with
    | zero => rfl
    | succ n ih =>
      have ih := ih (by omega)
      show zcnt _ n + _ = zcnt _ n + _ + (zcnt _ n + _)
      rw [ih]
      have e1 : (f_mvC (f_tick C)).2.2.1 n = f_mv1 (f_tick C) (f_tide (f_tick C).2.2.2.2.1) (C.2.2.1 n) := if_pos (show n < C.2.2.2.1.2 by omega)
      have ew : ((f_mvC (f_tick C)).2.2.1 n).2.2.2.1 = (C.2.2.1 n).2.2.2.1 := by rw [e1]; exact mv1_w _ _
      have ex : (C.2.2.1 n).2.2.2.1 = true → f_wkn (f_mvC (f_tick C)) n = false := fun q => by
        unfold f_wkn
        exact decide_eq_false (fun g => by rw [ew, q] at g; cases g.1)
      exact add_or _ _ _ _ ex
  rcases h2 C.2.2.2.1.2 with h2 | h2
  · rw [h1, h2, f_min_eq]
    show C.2.2.2.2.2.2.2.1 + zcnt (f_wkn (f_mvC (f_tick C))) C.2.2.2.1.2 + _ = _
    omega
  · omega
end
