/-! mathematics: the cells in order of their depths -/
theorem oC_mem {C : zCo} {d x : Nat} : ∀ {n c : Nat}, x ∈ oC C d n c ↔ (c ≤ x ∧ x < c + n) ∧ C.1 x = d
  | 0, c => by simp [oC]; omega
  | n + 1, c => by
    unfold oC
    by_cases h : C.1 c = d
    · rw [if_pos h, List.mem_cons, oC_mem (n := n) (c := c + 1)]
      constructor
      · rintro (rfl | ⟨h1, h2⟩)
        · exact ⟨by omega, h⟩
        · exact ⟨by omega, h2⟩
      · rintro ⟨h1, h2⟩
        by_cases e : x = c
        · exact Or.inl e
        · exact Or.inr ⟨by omega, h2⟩
    · rw [if_neg h, oC_mem (n := n) (c := c + 1)]
      constructor
      · rintro ⟨h1, h2⟩; exact ⟨by omega, h2⟩
      · rintro ⟨h1, h2⟩
        have e : x ≠ c := fun e => h (by rw [← e]; exact h2)
        exact ⟨by omega, h2⟩
theorem oD_mem {C : zCo} {x : Nat} : ∀ {n d : Nat}, x ∈ oD C n d ↔ x < 64 ∧ d ≤ C.1 x ∧ C.1 x < d + n
  | 0, d => by simp [oD] <;> omega
  | n + 1, d => by
    unfold oD
    rw [List.mem_append, oC_mem, oD_mem (n := n) (d := d + 1)]
    constructor
    · rintro (h | h) <;> omega
    · intro h
      by_cases e : C.1 x = d
      · exact Or.inl ⟨by omega, e⟩
      · exact Or.inr (by omega)
def oR (C : zCo) (a b : Nat) : Prop := C.1 a < C.1 b ∨ (C.1 a = C.1 b ∧ a < b)
theorem oC_pw {C : zCo} {d : Nat} : ∀ {n c : Nat}, (oC C d n c).Pairwise (oR C)
  | 0, c => by unfold oC; exact List.Pairwise.nil
  | n + 1, c => by
    unfold oC
    by_cases h : C.1 c = d
    · rw [if_pos h, List.pairwise_cons]
      exact ⟨fun x hx => Or.inr (by have := oC_mem.mp hx; omega), oC_pw⟩
    · rw [if_neg h]; exact oC_pw
theorem oD_pw {C : zCo} : ∀ {n d : Nat}, (oD C n d).Pairwise (oR C)
  | 0, d => by unfold oD; exact List.Pairwise.nil
  | n + 1, d => by
    unfold oD
    rw [List.pairwise_append]
    exact ⟨oC_pw, oD_pw, fun a ha b hb => Or.inl (by have h1 := oC_mem.mp ha; have h2 := oD_mem.mp hb; omega)⟩
theorem oC_len {C : zCo} {d : Nat} : ∀ {n c : Nat}, (oC C d n c).length + zcnt (fun x => decide (C.1 x = d)) c = zcnt (fun x => decide (C.1 x = d)) (c + n)
  | 0, c => by simp [oC]
  | n + 1, c => by
    have ih := oC_len (C := C) (d := d) (n := n) (c := c + 1)
    have st : oC C d (n + 1) c = if C.1 c = d then c :: oC C d n (c + 1) else oC C d n (c + 1) := rfl
    rw [show c + (n + 1) = c + 1 + n by omega, st]
    by_cases h : C.1 c = d
    · rw [if_pos h, List.length_cons]
      rw [zcnt_t (p := fun x => decide (C.1 x = d)) (decide_eq_true h)] at ih
      omega
    · rw [if_neg h]
      rw [zcnt_f (p := fun x => decide (C.1 x = d)) (decide_eq_false h)] at ih
      exact ih
theorem zcnt_add {p q r : Nat → Bool} (h : ∀ x, (if r x then 1 else 0) = (if p x then 1 else 0) + (if q x then 1 else 0 : Nat)) : ∀ n, zcnt r n = zcnt p n + zcnt q n
  | 0 => rfl
  | n + 1 => by
    show zcnt r n + (if r n then 1 else 0) = zcnt p n + (if p n then 1 else 0) + (zcnt q n + (if q n then 1 else 0))
    rw [h n, zcnt_add h n]; omega
theorem oD_len {C : zCo} : ∀ {n d : Nat}, (oD C n d).length = zcnt (fun x => decide (d ≤ C.1 x ∧ C.1 x < d + n)) 64
  | 0, d => by
    have : ∀ m, zcnt (fun x => decide (d ≤ C.1 x ∧ C.1 x < d + 0)) m = 0 := fun m => by
      induction m with
      | zero => rfl
      | succ m ih => rw [zcnt_f (decide_eq_false (by omega))]; exact ih
    rw [this]; rfl
  | n + 1, d => by
    have h1 := oC_len (C := C) (d := d) (n := 64) (c := 0)
    have h2 := oD_len (C := C) (n := n) (d := d + 1)
    have st : oD C (n + 1) d = oC C d 64 0 ++ oD C n (d + 1) := rfl
    rw [st, List.length_append, h2]
    have h3 : zcnt (fun x => decide (C.1 x = d)) 0 = 0 := rfl
    rw [h3, Nat.add_zero, Nat.zero_add] at h1
    have h4 := zcnt_add (p := fun x => decide (C.1 x = d)) (q := fun x => decide (d + 1 ≤ C.1 x ∧ C.1 x < d + 1 + n)) (r := fun x => decide (d ≤ C.1 x ∧ C.1 x < d + (n + 1))) (fun x => by simp only [decide_eq_true_eq]; (repeat' split) <;> omega) 64
    rw [h4]
    omega
theorem f_ord_len {K : Nat} {C : zCo} (hO : zOk K C) : (f_ord C).length = 64 := by
  unfold f_ord
  rw [oD_len]
  have : ∀ m, zcnt (fun x => decide (0 ≤ C.1 x ∧ C.1 x < 0 + 10)) m = m := fun m => by
    induction m with
    | zero => rfl
    | succ m ih => rw [zcnt_t (decide_eq_true (by have := hO.1 m; omega)), ih]
  exact this 64
theorem f_ord_step {C : zCo} {r a b : Nat} (ha : (f_ord C)[r]? = some a) (hb : (f_ord C)[r + 1]? = some b) : oR C a b := by
  obtain ⟨h1, e1⟩ := List.getElem?_eq_some_iff.mp ha
  obtain ⟨h2, e2⟩ := List.getElem?_eq_some_iff.mp hb
  have this : oR C (f_ord C)[r] (f_ord C)[r + 1] := List.pairwise_iff_getElem.mp (oD_pw (C := C) (n := 10) (d := 0)) r (r + 1) h1 h2 (by omega)
  rw [e1, e2] at this
  exact this
theorem f_ord_min {K : Nat} {C : zCo} (hO : zOk K C) {a : Nat} (ha : (f_ord C)[0]? = some a) : C.1 a ≤ C.1 0 := by
  obtain ⟨h1, e1⟩ := List.getElem?_eq_some_iff.mp ha
  have h9 := hO.1 0
  have hm : 0 ∈ f_ord C := oD_mem.mpr (by omega)
  obtain ⟨i, hi, e2⟩ := List.getElem_of_mem hm
  by_cases q : i = 0
  · subst q; rw [show a = 0 from e1.symm.trans e2]; exact Nat.le_refl _
  · have this : oR C (f_ord C)[0] (f_ord C)[i] := List.pairwise_iff_getElem.mp (oD_pw (C := C) (n := 10) (d := 0)) 0 i h1 hi (by omega)
    rw [e1, e2] at this
    rcases this with h | h <;> omega
