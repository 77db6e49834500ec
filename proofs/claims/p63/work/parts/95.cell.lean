/-! the script's numbers; what texts leave -/
section
variable {h : zH}
theorem m_cell {xs : List Int32} {i : Nat} (hs : h[77]? = some (100, xs.map .int)) (hx : xs.length ≤ 260) (hi : i < 65536) : zMet yL_cell cL_cell 2 (some .int) 1 0 0 [.ref 77, .int (iI (i : Int))] h (fun v h' => (∃ x : Int32, v = some (.int x)) ∧ h' = h) (fun _ _ => False) := by
  refine zMet.go (by decide +kernel) (Nat.le_of_ble_eq_true rfl) ?_
  intro X F B hnl hR hn
  by_cases h0 : xs.length = 0
  · refine z_aload_n F dL_cell_0 rfl rfl ?_
    refine zi_alen F dL_cell_1 hs (by decide) (by decide) (List.length_map _) ?_
    refine zi_if_ne (tgt := 13) F dL_cell_2 (by decide) (by first | omega | (dsimp only at *; omega)) (fun c2 => False.elim (by first | omega | (dsimp only at *; omega))) (fun c2 => ?_)
    refine zi_sipush F dL_cell_5 (by decide) ?_
    refine z_iload_n F dL_cell_8 rfl rfl ?_
    refine zi_imul F dL_cell_9 ?_
    refine z_goto (tgt := 22) F dL_cell_10 (by decide) ?_
    exact Z.widen (by decide) (by decide) (z_ireturn F rfl B dL_cell_22 ⟨⟨_, rfl⟩, rfl⟩)
  · refine z_aload_n F dL_cell_0 rfl rfl ?_
    refine zi_alen F dL_cell_1 hs (by decide) (by decide) (List.length_map _) ?_
    refine zi_if_ne (tgt := 13) F dL_cell_2 (by decide) (by first | omega | (dsimp only at *; omega)) (fun c2 => ?_) (fun c2 => False.elim (by first | omega | (dsimp only at *; omega)))
    refine z_aload_n F dL_cell_13 rfl rfl ?_
    refine z_iload_n F dL_cell_14 rfl rfl ?_
    refine z_ldc F dL_cell_15 zw_L_7 ?_
    refine z_iand F dL_cell_17 ?_
    obtain ⟨n, hn65, en⟩ := and_ex (iI (i : Int)) (m := 65535) (by decide)
    have en : iI (i : Int) &&& 65535 = iI (n : Int) := en
    rw [en]
    refine z_aload_n F dL_cell_18 rfl rfl ?_
    refine zi_alen F dL_cell_19 hs (by decide) (by decide) (List.length_map _) ?_
    refine zi_irem F dL_cell_20 (by omega) ?_
    have hml := Nat.mod_lt n (Nat.pos_of_ne_zero h0)
    obtain ⟨x, ex⟩ : ∃ x, (xs.map Value.int)[n % xs.length]? = some (.int x) := ⟨_, by rw [List.getElem?_map, List.getElem?_eq_getElem hml]; rfl⟩
    refine zi_iaload (i := (n % xs.length)) F dL_cell_21 hs rfl (by omega) ex ?_
    exact Z.widen (by decide) (by decide) (z_ireturn F rfl B dL_cell_22 ⟨⟨_, rfl⟩, rfl⟩)
end
section
variable {C : zCo} {S : zBt}
/-- a denial has a number -/
def hDn (r : zCh) : Prop := r.1 = -3 → ∃ n d : Int, r.2.2 = some (n, d) ∧ 1 ≤ n ∧ n ≤ 7
theorem hDn_perf (k : Nat) (V : Nat → Nat) (hb : ∀ l : Int, ¬ (f_dl C l).1 = -3) : hDn (f_perf C k V) := by
  unfold f_perf
  split
  · unfold f_cd hDn
    (repeat' split) <;> intro q <;> first | exact ⟨_, _, rfl, by omega, by omega⟩ | (exfalso; dsimp only at q; omega)
  · unfold f_pl hDn
    (repeat' split) <;> intro q <;> first | exact ⟨_, _, rfl, by omega, by omega⟩ | (exfalso; dsimp only at q; omega)
  · unfold f_cp hDn
    (repeat' split) <;> intro q <;> first | exact ⟨_, _, rfl, by omega, by omega⟩ | (exfalso; dsimp only at q; omega)
  · exact fun q => absurd q (hb _)
  · unfold f_ls hDn
    (repeat' split) <;> intro q <;> first | exact ⟨_, _, rfl, by omega, by omega⟩ | (exfalso; dsimp only at q; omega)
  · unfold f_cg hDn
    (repeat' split) <;> intro q <;> first | exact ⟨_, _, rfl, by omega, by omega⟩ | (exfalso; dsimp only at q; omega)
  · unfold f_sv hDn
    (repeat' split) <;> intro q <;> first | exact ⟨_, _, rfl, by omega, by omega⟩ | (exfalso; dsimp only at q; omega)
  · exact fun q => absurd q (f_ps_n _ _).2
theorem run_no : ∀ (cs : List (Nat × List Nat)) (i : Nat) (S : zBt), (f_run cs i S).2 = false → (f_run cs i S).1.2.2.2.2.2.1 = 8 ∧ 1 ≤ (f_run cs i S).1.2.2.2.2.2.2.2 ∧ (f_run cs i S).1.2.2.2.2.2.2.2 ≤ 9
  | [], i, S, h => by cases h
  | c :: cs, i, S, h => by
    rw [f_run_cons] at h ⊢
    split
    · have hd := hDn_perf (C := S.1) c.1 (fun j => c.2.getD j 0) (fun l => (f_dl_n S.1 l).2)
      generalize f_perf S.1 c.1 (fun j => c.2.getD j 0) = r at hd
      refine ⟨rfl, ?_⟩
      show 1 ≤ (if r.1 = -3 then (f_den S.2.2.2.2 r.2.2).2.1 else 9) ∧ (if r.1 = -3 then (f_den S.2.2.2.2 r.2.2).2.1 else 9) ≤ 9
      by_cases e : r.1 = -3
      · obtain ⟨n, d, e2, q1, q2⟩ := hd e
        rw [if_pos e, e2]
        show 1 ≤ n ∧ n ≤ 9
        omega
      · rw [if_neg e]
        decide
    · rename_i q
      rw [if_neg q] at h
      exact run_no cs (i + 1) (f_put S (f_perf S.1 c.1 (fun j => c.2.getD j 0))) h
theorem run_yes : ∀ (cs : List (Nat × List Nat)) (i : Nat) (S : zBt), (f_run cs i S).2 = true → ∃ S', (f_run cs i S).1 = f_keep S' ∧ S'.2.2.1 = S.2.2.1
  | [], i, S, _ => ⟨S, rfl, rfl⟩
  | c :: cs, i, S, h => by
    rw [f_run_cons] at h ⊢
    split
    · rename_i q
      rw [if_pos q] at h
      cases h
    · rename_i q
      rw [if_neg q] at h
      exact run_yes cs (i + 1) (f_put S (f_perf S.1 c.1 (fun j => c.2.getD j 0))) h
theorem run_snap : ∀ (cs : List (Nat × List Nat)) (i : Nat) (S : zBt), (f_run cs i S).1.2.1 = S.2.1
  | [], i, S => rfl
  | c :: cs, i, S => by
    rw [f_run_cons]
    split
    · rfl
    · exact run_snap cs (i + 1) (f_put S (f_perf S.1 c.1 (fun j => c.2.getD j 0)))
theorem exe_snap (r : Int × List (Nat × List Nat)) : (f_exe S r).1.2.1 = S.2.1 := by
  unfold f_exe
  split
  · exact run_snap _ _ _
  · rfl
/-- an executed text is undone -/
theorem exe_undo {r : Int × List (Nat × List Nat)} (x : (Nat → Nat) × Nat) (hf : S.2.2.1.1 < 8) (hc : S.2.2.1.2.1 ≤ 8) (h1 : r.1 = -1) (h2 : ¬ (f_exe S r).2 = -100000000) : 0 < (f_tx (f_exe S r).1 x).2.2.1.2.1 ∧ (f_undo (f_tx (f_exe S r).1 x)).1 = S.1 := by
  unfold f_exe at h2 ⊢
  rw [if_pos h1] at h2 ⊢
  dsimp only at h2 ⊢
  by_cases q : (f_run r.2 0 (f_prep S)).2 = true
  · obtain ⟨S', e1, e2⟩ := run_yes _ _ _ q
    rw [e1]
    have eH : S'.2.2.1 = (S.2.2.1.1, S.2.2.1.2.1, zup S.2.2.1.2.2 8 S.1) := e2
    refine ⟨?_, ?_⟩
    · show 0 < f_kc S'.2.2.1.2.1
      exact f_kc_pos _
    · show zsw S'.2.2.1.2.2 ((S'.2.2.1.1 + S'.2.2.1.2.1) % 8) ((f_kf S'.2.2.1.1 S'.2.2.1.2.1 + (f_kc S'.2.2.1.2.1 - 1)) % 8) = S.1
      rw [eH]
      show zsw (zup S.2.2.1.2.2 8 S.1) ((S.2.2.1.1 + S.2.2.1.2.1) % 8) ((f_kf S.2.2.1.1 S.2.2.1.2.1 + (f_kc S.2.2.1.2.1 - 1)) % 8) = S.1
      have e : (f_kf S.2.2.1.1 S.2.2.1.2.1 + (f_kc S.2.2.1.2.1 - 1)) % 8 = (S.2.2.1.1 + S.2.2.1.2.1) % 8 := by
        unfold f_kf f_kc
        (repeat' split) <;> omega
      rw [e]
      unfold zsw
      rw [if_pos rfl]
      exact zup_s _ _ _
  · rw [if_neg q] at h2
    exact absurd rfl h2
theorem exe_dn {r : Int × List (Nat × List Nat)} (h1 : r.1 = -1) (h2 : (f_exe S r).2 = -100000000) : (f_exe S r).1.2.2.2.2.2.1 = 8 ∧ 1 ≤ (f_exe S r).1.2.2.2.2.2.2.2 ∧ (f_exe S r).1.2.2.2.2.2.2.2 ≤ 9 := by
  unfold f_exe at h2 ⊢
  rw [if_pos h1] at h2 ⊢
  dsimp only at h2 ⊢
  by_cases q : (f_run r.2 0 (f_prep S)).2 = true
  · rw [if_pos q] at h2
    omega
  · rw [Bool.not_eq_true] at q
    exact run_no _ _ _ q
end
