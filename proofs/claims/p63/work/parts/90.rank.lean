/-! ranks of ships; ways in two ways -/
theorem zcnt_mono {p q : Nat → Bool} : ∀ {n : Nat}, (∀ x, x < n → p x = true → q x = true) → zcnt p n ≤ zcnt q n
  | 0, _ => Nat.le_refl _
  | n + 1, h => by
    have h1 := zcnt_mono (p := p) (q := q) (n := n) (fun x hx => h x (by omega))
    have h2 := h n (by omega)
    show zcnt p n + (if p n then 1 else 0) ≤ zcnt q n + (if q n then 1 else 0)
    by_cases e : p n = true
    · rw [if_pos e, if_pos (h2 e)]
      omega
    · rw [if_neg e]
      omega
theorem zcnt_strict {p q : Nat → Bool} : ∀ {n i : Nat}, (∀ x, x < n → p x = true → q x = true) → i < n → p i = false → q i = true → zcnt p n < zcnt q n
  | 0, i, _, hi, _, _ => absurd hi (Nat.not_lt_zero _)
  | n + 1, i, h, hi, hp, hq => by
    show zcnt p n + (if p n then 1 else 0) < zcnt q n + (if q n then 1 else 0)
    by_cases e : i = n
    · subst e
      have h1 := zcnt_mono (p := p) (q := q) (n := i) (fun x hx => h x (by omega))
      rw [hp, hq]
      show zcnt p i + 0 < zcnt q i + 1
      omega
    · have h1 := zcnt_strict (n := n) (fun x hx => h x (by omega)) (by omega) hp hq
      have h2 := h n (by omega)
      by_cases e2 : p n = true
      · rw [if_pos e2, if_pos (h2 e2)]
        omega
      · rw [if_neg e2]
        omega
theorem zcnt_full (n : Nat) : zcnt (fun _ => true) n = n := by
  induction n with
  | zero => rfl
  | succ n ih =>
    show zcnt (fun _ => true) n + 1 = n + 1
    rw [ih]
section
variable {C : zCo}
theorem dkr_self (i : Nat) : f_dkr C i i = false := by
  unfold f_dkr
  rw [if_pos rfl, if_pos rfl]
  exact decide_eq_false (Nat.lt_irrefl i)
theorem dkr_iff (i j : Nat) : f_dkr C i j = true ↔ ((C.2.2.1 j).2.2.2.2 < (C.2.2.1 i).2.2.2.2 ∨ ((C.2.2.1 i).2.2.2.2 = (C.2.2.1 j).2.2.2.2 ∧ ((C.2.2.1 j).2.1 < (C.2.2.1 i).2.1 ∨ ((C.2.2.1 i).2.1 = (C.2.2.1 j).2.1 ∧ i < j)))) := by
  unfold f_dkr
  by_cases e : (C.2.2.1 i).2.2.2.2 = (C.2.2.1 j).2.2.2.2
  · rw [if_pos e]
    by_cases e2 : (C.2.2.1 i).2.1 = (C.2.2.1 j).2.1
    · rw [if_pos e2, decide_eq_true_iff]
      omega
    · rw [if_neg e2, decide_eq_true_iff]
      omega
  · rw [if_neg e, decide_eq_true_iff]
    omega
theorem dkr_tot {i j : Nat} (h : i ≠ j) : f_dkr C i j = true ∨ f_dkr C j i = true := by
  rw [dkr_iff, dkr_iff]
  omega
theorem dkr_tr {i j k : Nat} (h1 : f_dkr C i j = true) (h2 : f_dkr C j k = true) : f_dkr C i k = true := by
  rw [dkr_iff] at h1 h2 ⊢
  omega
theorem sdt_eq (j : Nat) : f_sdt C j = zcnt (fun i => f_dkr C i j) C.2.2.2.1.2 := by
  unfold f_sdt
  refine zcnt_eqn _ fun x _ => ?_
  by_cases e : x = j
  · subst e
    rw [dkr_self]
    simp
  · rw [decide_eq_true e]
    simp
theorem sdt_lt {j : Nat} (hj : j < C.2.2.2.1.2) : f_sdt C j < C.2.2.2.1.2 := by
  have := zcnt_strict (p := fun i => f_dkr C i j) (q := fun _ => true) (n := C.2.2.2.1.2) (i := j) (fun _ _ _ => rfl) hj (dkr_self j) rfl
  rw [zcnt_full] at this
  rw [sdt_eq]
  exact this
theorem sdt_dk {i j : Nat} (hi : i < C.2.2.2.1.2) (h : f_dkr C i j = true) : f_sdt C i < f_sdt C j := by
  rw [sdt_eq, sdt_eq]
  exact zcnt_strict (i := i) (fun x _ q => dkr_tr q h) hi (dkr_self i) h
theorem sdt_onto {r : Nat} (hr : r < C.2.2.2.1.2) : ∃ i, i < C.2.2.2.1.2 ∧ f_sdt C i = r :=
  fb_onto (f := f_sdt C) (fun i hi => sdt_lt hi) (fun i j hij hj e => by
    rcases dkr_tot (C := C) (i := i) (j := j) (by omega) with q | q
    · have := sdt_dk (by omega) q; omega
    · have := sdt_dk hj q; omega) hr
theorem sdt_next {i j : Nat} (hj : j < C.2.2.2.1.2) (h : f_sdt C i < f_sdt C j) : (C.2.2.1 j).2.2.2.2 ≤ (C.2.2.1 i).2.2.2.2 := by
  by_cases e : i = j
  · subst e; omega
  · rcases dkr_tot (C := C) (i := i) (j := j) e with q | q
    · rw [dkr_iff] at q; omega
    · have := sdt_dk hj q; omega
theorem way_eq {K i : Nat} (hO : zOk K C) (x y : Int) : g_wayR C (i : Int) x y = g_way C (i : Int) x y := by
  unfold g_wayR g_way
  rw [Int.toNat_natCast, iRun_eq (hO.2.2.1 i).1]
theorem way_b {K i : Nat} (hO : zOk K C) (x y : Int) : -1000 ≤ g_way C (i : Int) x y ∧ g_way C (i : Int) x y < 64 := by
  unfold g_way
  rw [Int.toNat_natCast]
  split
  · have := f_ln_b (op := f_opF C (f_tide C.2.2.2.2.1) (C.2.2.1 i).2.1) (hO.2.2.1 i).1 (8 * y + x).toNat
    revert this
    cases f_ln (f_opF C (f_tide C.2.2.2.2.1) (C.2.2.1 i).2.1) (C.2.2.1 i).1 (8 * y + x).toNat with
    | none => intro _; show -1000 ≤ (-1000 : Int) ∧ (-1000 : Int) < 64; decide
    | some k => intro q; have q : -1 ≤ (k : Int) ∧ (k : Int) < 64 := q; show -1000 ≤ (k : Int) ∧ (k : Int) < 64; omega
  · decide
theorem way_own {K i : Nat} (hO : zOk K C) (hi : i < C.2.2.2.1.2) : g_way C (i : Int) (((C.2.2.1 i).1 : Int) % 8) (((C.2.2.1 i).1 : Int) / 8) = 0 := by
  have := (hO.2.2.1 i).1
  unfold g_way
  rw [Int.toNat_natCast, cell_rc, if_pos (by omega), f_ln_own]
  rfl
end
