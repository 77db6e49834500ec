/-! a minute keeps it; texts keep it -/
section
variable {K : Nat} {C : zCo}
theorem hS1_mv {t : Nat} {s : zSp} (h : hS1 s) : hS1 (f_mv1 C t s) := by
  unfold f_mv1
  split
  · exact h
  · rename_i g e
    split
    · exact h
    · refine ⟨h.1, (fun q => by cases q), fun q => ?_⟩
      have q : (if f_nx C t s.2.1 s.1 g = g then none else some g) = some (f_nx C t s.2.1 s.1 g) := q
      split at q
      · cases q
      · rename_i ne
        exact ne (Option.some.inj q).symm
theorem hS1_wk {s : zSp} (h : hS1 s) : hS1 (f_wk1 C s) := by
  unfold f_wk1
  split
  · exact ⟨h.1, fun _ => rfl, fun q => by cases q⟩
  · exact h
theorem hS1_sg {s : zSp} (h : hS1 s) : hS1 (f_sg1 C s) := by
  unfold f_sg1
  split <;> exact h
theorem f_sgn_sum (C : zCo) : zsum (fun l => if l < C.2.2.2.1.1 then zcnt (f_lsp C l) C.2.2.2.1.2 else 0) C.2.2.2.1.1 = zsum (f_sgn C) C.2.2.2.1.2 := by
  rw [zsum_congr (g := fun l => zsum (fun i => if f_lsp C l i then 1 else 0) C.2.2.2.1.2) _ (fun l hl => by rw [if_pos hl, zcnt_sum]), zsum_swap]
  refine zsum_congr _ fun i hi => ?_
  unfold f_sgn f_lsw
  rw [← zcnt_sum (fun l => f_lsp C l i)]
  by_cases hw : (C.2.2.1 i).2.2.2.1 = true
  · rw [if_pos hw, zcnt_sum]
    rw [zsum_congr (g := fun _ => 0) _ (fun l _ => by unfold f_lsp; rw [hw]; rfl), zsum_zero]
  · rw [if_neg hw, zcnt_sum, zcnt_sum]
    refine zsum_congr _ fun l _ => ?_
    unfold f_lsp
    rw [Bool.not_eq_true] at hw
    rw [hw]
    rfl
theorem hSgt_sg (h : hSgt C) : hSgt (f_sg C) := by
  show C.2.2.2.2.2.1 + zsum (f_sgn C) C.2.2.2.1.2 = C.2.2.2.2.2.2.1 + zsum (fun i => (C.2.1 i).2.2.2.2 + (if i < C.2.2.2.1.1 then zcnt (f_lsp C i) C.2.2.2.1.2 else 0)) C.2.2.2.1.1
  rw [zsum_add, f_sgn_sum, h]
  omega
theorem g_min (h : zGd K C) : zGd (K + 43) (f_min C) := by
  refine ⟨f_min_ok h.1, ?_, ?_, ?_⟩
  · exact h.2.1
  · intro i hi
    have hi : i < C.2.2.2.1.2 := hi
    have h1 := h.2.2.1 i hi
    rw [f_min_eq]
    have e1 : (f_mvC (f_tick C)).2.2.1 i = f_mv1 (f_tick C) (f_tide (f_tick C).2.2.2.2.1) (C.2.2.1 i) := if_pos hi
    have e2 : (f_wk (f_mvC (f_tick C))).2.2.1 i = f_wk1 (f_mvC (f_tick C)) ((f_mvC (f_tick C)).2.2.1 i) := if_pos hi
    have e3 : (f_sg (f_wk (f_mvC (f_tick C)))).2.2.1 i = f_sg1 (f_wk (f_mvC (f_tick C))) ((f_wk (f_mvC (f_tick C))).2.2.1 i) := if_pos hi
    rw [e3, e2, e1]
    exact hS1_sg (hS1_wk (hS1_mv h1))
  · rw [f_min_eq]
    exact hSgt_sg (C := f_wk (f_mvC (f_tick C))) h.2.2.2
theorem g_mins : ∀ {n K : Nat} {C : zCo}, zGd K C → zGd (K + 43 * n) (f_mins n C)
  | 0, _, _, h => h
  | n + 1, K, C, h => (g_mins (n := n) (g_min h)).mono (by omega)
theorem g_ps (h : zGd K C) (m : Int) : zGd (K + 2064) (f_ps C m).2.1 := by
  unfold f_ps
  split
  · exact (g_mins (n := m.toNat) h).mono (by omega)
  · exact h.mono (by omega)
end
theorem g_perf (C : zCo) (k : Nat) (V : Nat → Nat) (n : Nat) (h : zGd n C) : zGd (n + 2100) (f_perf C k V).2.1 := by
  unfold f_perf
  split
  · exact (g_cd h _ _ _).mono (by omega)
  · exact (g_pl h _ _ _ _).mono (by omega)
  · exact (g_cp h _ _).mono (by omega)
  · exact (g_dl h _).mono (by omega)
  · exact (g_ls h _ _ _).mono (by omega)
  · exact (g_cg h _ _ _).mono (by omega)
  · exact (g_sv h _).mono (by omega)
  · exact (g_ps h _).mono (by omega)
/-- the texts' commands -/
theorem roTxt_prs : ∀ k, k < 24 → (f_prs (roTxt.getD k []) 10 0 []).1 = -1 ∧ zCs (f_prs (roTxt.getD k []) 10 0 []).2 := by
  unfold zCs
  decide +kernel
theorem nil_prs : f_prs [] 10 0 [] = (0, []) := by decide +kernel
/-- what every state keeps: the coast, the snapshot, the history -/
def zGS (K : Nat) (S : zBt) : Prop := zGd K S.1 ∧ zGd K S.2.1.1 ∧ ∀ i, zGd K (S.2.2.1.2.2 i)
theorem zGS.mono {K K' : Nat} {S : zBt} (h : zGS K S) (hk : K ≤ K') : zGS K' S := ⟨h.1.mono hk, h.2.1.mono hk, fun i => (h.2.2 i).mono hk⟩
section
variable {K : Nat} {S : zBt}
theorem zGS.put (h : zGS K S) {r : zCh} (hr : zGd K r.2.1) : zGS K (f_put S r) := ⟨hr, h.2⟩
theorem zGS.prep (h : zGS K S) : zGS K (f_prep S) := ⟨h.1, h.2.1, fun i => zup_P (P := zGd K) (fun _ => h.1) (fun _ => h.2.2 i)⟩
theorem zGS.keep (h : zGS K S) : zGS K (f_keep S) := ⟨h.1, h.2.1, fun i => by
  show zGd K (zsw S.2.2.1.2.2 _ i)
  unfold zsw
  (repeat' split) <;> exact h.2.2 _⟩
theorem zGS.fin (h : zGS K S) {r : zCh} (hr : zGd K r.2.1) : zGS K (f_fin S r) := by
  unfold f_fin
  split
  · exact h.prep.put hr
  · exact (h.prep.put hr).keep
theorem zGS.undo (h : zGS K S) : zGS K (f_undo S) := ⟨h.2.2 _, h.2.1, h.2.2⟩
theorem zGS.save (h : zGS K S) : zGS K (f_save S) := ⟨h.1, h.1, h.2.2⟩
theorem zGS.rest (h : zGS K S) : zGS K (f_rest S) := ⟨h.2.1, h.2.1, h.2.2⟩
theorem zGS.tx (h : zGS K S) (x : (Nat → Nat) × Nat) : zGS K (f_tx S x) := h
end
theorem zGS.run : ∀ (cs : List (Nat × List Nat)) (i K : Nat) (S : zBt), zGS K S → zGS (K + 2100 * cs.length) (f_run cs i S).1
  | [], i, K, S, h => h.keep
  | c :: cs, i, K, S, h => by
    rw [f_run_cons]
    have hp := g_perf S.1 c.1 (fun j => c.2.getD j 0) K h.1
    have h2 : zGS (K + 2100) (f_put S (f_perf S.1 c.1 (fun j => c.2.getD j 0))) := (h.mono (by omega)).put hp
    split
    · exact ⟨(h2.2.2 8).mono (by rw [List.length_cons]; omega), h2.2.1.mono (by rw [List.length_cons]; omega), fun j => (h2.2.2 j).mono (by rw [List.length_cons]; omega)⟩
    · exact (zGS.run cs (i + 1) _ _ h2).mono (by rw [List.length_cons]; omega)
theorem zGS.exe {K : Nat} {S : zBt} (h : zGS K S) (r : Int × List (Nat × List Nat)) (hr : r.2.length ≤ 10) : zGS (K + 21000) (f_exe S r).1 := by
  unfold f_exe
  split
  · exact (zGS.run r.2 0 K _ h.prep).mono (by omega)
  · exact h.mono (by omega)
