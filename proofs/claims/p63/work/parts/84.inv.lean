/-! what every chart keeps -/
theorem zsum_congr {f g : Nat → Nat} : ∀ n, (∀ i, i < n → f i = g i) → zsum f n = zsum g n
  | 0, _ => rfl
  | n + 1, h => by
    show zsum f n + f n = zsum g n + g n
    rw [zsum_congr n (fun i hi => h i (by omega)), h n (by omega)]
theorem zsum_add (f g : Nat → Nat) : ∀ n, zsum (fun i => f i + g i) n = zsum f n + zsum g n
  | 0 => rfl
  | n + 1 => by
    show zsum (fun i => f i + g i) n + (f n + g n) = zsum f n + f n + (zsum g n + g n)
    rw [zsum_add f g n]
    omega
theorem zsum_zero : ∀ n, zsum (fun _ => 0) n = 0
  | 0 => rfl
  | n + 1 => by
    show zsum (fun _ => 0) n + 0 = 0
    rw [zsum_zero n]
theorem zsum_get {f : Nat → Nat} : ∀ {n i : Nat}, i < n → f i ≤ zsum f n
  | 0, _, h => absurd h (Nat.not_lt_zero _)
  | n + 1, i, h => by
    show f i ≤ zsum f n + f n
    by_cases e : i = n
    · subst e; omega
    · have := zsum_get (f := f) (n := n) (i := i) (by omega)
      omega
theorem zsum_swap (a : Nat → Nat → Nat) (m : Nat) : ∀ n, zsum (fun l => zsum (fun i => a l i) m) n = zsum (fun i => zsum (fun l => a l i) n) m
  | 0 => (zsum_zero m).symm
  | n + 1 => by
    show zsum (fun l => zsum (fun i => a l i) m) n + zsum (fun i => a n i) m = zsum (fun i => zsum (fun l => a l i) n + a n i) m
    rw [zsum_add, zsum_swap a m n]
theorem zcnt_sum (p : Nat → Bool) : ∀ n, zcnt p n = zsum (fun i => if p i then 1 else 0) n
  | 0 => rfl
  | n + 1 => by
    show zcnt p n + _ = zsum _ n + _
    rw [zcnt_sum p n]
theorem zsum_skip (f : Nat → Nat) (i : Nat) : ∀ m, i ≤ m → zsum (fun k => f (if i ≤ k then k + 1 else k)) m + f i = zsum f (m + 1)
  | 0, h => by
    have : i = 0 := by omega
    subst this
    rfl
  | m + 1, h => by
    show zsum _ m + f (if i ≤ m then m + 1 else m) + f i = zsum f (m + 1) + f (m + 1)
    by_cases e : i ≤ m
    · rw [if_pos e, ← zsum_skip f i m e]
      omega
    · have e2 : i = m + 1 := by omega
      rw [if_neg e, e2, zsum_congr (g := f) m (fun k hk => by rw [if_neg (by omega)])]
      show zsum f m + f m + _ = _
      rfl
theorem zsum_rot (f : Nat → Nat) {i n : Nat} (h : i < n) : zsum (fun k => f (zrot i n k)) (n - 1) + f i = zsum f n := by
  obtain ⟨m, rfl⟩ : ∃ m, n = m + 1 := ⟨n - 1, by omega⟩
  rw [← zsum_skip f i m (by omega), Nat.add_sub_cancel]
  congr 1
  refine zsum_congr m fun k hk => ?_
  unfold zrot
  by_cases e : i ≤ k
  · rw [if_pos ⟨e, by omega⟩, if_pos e]
  · rw [if_neg (by omega), if_neg (by omega), if_neg e]
theorem zsum_up {f : Nat → Nat} {n v : Nat} : zsum (fun i => if i = n then v else f i) (n + 1) = zsum f n + v := by
  show zsum (fun i => if i = n then v else f i) n + (if n = n then v else f n) = _
  rw [if_pos rfl, zsum_congr (g := f) n (fun i hi => if_neg (by omega))]
def hS1 (s : zSp) : Prop := 1 ≤ s.2.1 ∧ (s.2.2.2.1 = true → s.2.2.1 = none) ∧ s.2.2.1 ≠ some s.1
def hShp (C : zCo) : Prop := ∀ i, i < C.2.2.2.1.2 → hS1 (C.2.2.1 i)
theorem zup_P {α : Type} {P : α → Prop} {f : Nat → α} {i j : Nat} {v : α} (h1 : j = i → P v) (h2 : j ≠ i → P (f j)) : P (zup f i v j) := by
  unfold zup
  by_cases e : j = i
  · rw [if_pos e]; exact h1 e
  · rw [if_neg e]; exact h2 e
def hSgt (C : zCo) : Prop := C.2.2.2.2.2.1 = C.2.2.2.2.2.2.1 + zsum (fun i => (C.2.1 i).2.2.2.2) C.2.2.2.1.1
/-- what every coast keeps -/
def zGd (K : Nat) (C : zCo) : Prop := zOk K C ∧ hDis C ∧ hShp C ∧ hSgt C
theorem zGd.mono {K K' : Nat} {C : zCo} (h : zGd K C) (hk : K ≤ K') : zGd K' C := ⟨h.1.mono hk, h.2⟩
theorem zGd_0 : zGd 0 f_C0 := ⟨⟨fun _ => by show 5 ≤ 9; decide, fun _ => by show 0 < 64 ∧ 0 ≤ 9 ∧ 8 ≤ 8 ∧ 8 ≤ 24 ∧ 0 < 8 ∧ 0 ≤ 0; decide, fun _ => ⟨by show 0 < 64; decide, by show 0 ≤ 9; decide, (fun c e => by cases e), by show 0 ≤ 0; decide⟩, by show 0 ≤ 6; decide, by show 0 ≤ 6; decide, Nat.le_refl _, Nat.le_refl _, Nat.le_refl _, Nat.le_refl _, Nat.le_refl _⟩, fun i j h _ _ => absurd h (Nat.not_lt_zero _), fun i h => absurd h (Nat.not_lt_zero _), rfl⟩
section
variable {K : Nat} {C : zCo}
theorem g_cd (h : zGd K C) (x y d : Int) : zGd K (f_cd C x y d).2.1 := by
  unfold f_cd
  split
  · split
    · split
      · exact h
      · refine ⟨⟨fun c => ?_, h.1.2⟩, h.2⟩
        show zup C.1 _ d.toNat c ≤ 9
        unfold zup
        split
        · omega
        · exact h.1.1 c
    · exact h
  · exact h
theorem f_lix_none {c n : Nat} (h : f_lix C c n 0 = none) : ∀ i, i < n → (C.2.1 i).1 ≠ c := fun i hi e => by
  obtain ⟨m, hm⟩ := f_lix_some (C := C) (c := c) (n := n) (i := 0) (j := i) (Nat.zero_le _) (by omega) e
  rw [h] at hm
  cases hm
theorem g_pl (h : zGd K C) (x y r p : Int) : zGd K (f_pl C x y r p).2.1 := by
  unfold f_pl
  split
  · rename_i hv
    split
    · rename_i hr
      split
      · exact h
      · rename_i hn
        split
        · exact h
        · rename_i hx
          obtain ⟨⟨o1, o2, o3, o4, o5⟩, d, s, t⟩ := h
          refine ⟨⟨o1, fun i => ?_, o3, ?_, o5⟩, fun i j hi hj e => ?_, s, ?_⟩
          · refine zup_P (P := zLok K) (fun _ => ?_) (fun _ => o2 i)
            refine ⟨?_, ?_, ?_, ?_, ?_, ?_⟩ <;> dsimp only <;> omega
          · show C.2.2.2.1.1 + 1 ≤ 6
            omega
          · have hi : i < C.2.2.2.1.1 + 1 := hi
            have hj : j < C.2.2.2.1.1 + 1 := hj
            have e : (zup C.2.1 C.2.2.2.1.1 ((8 * y + x).toNat, r.toNat, p.toNat, 0, 0) i).1 = (zup C.2.1 C.2.2.2.1.1 ((8 * y + x).toNat, r.toNat, p.toNat, 0, 0) j).1 := e
            have hne := f_lix_none hx
            unfold zup at e
            by_cases ei : i = C.2.2.2.1.1
            · by_cases ej : j = C.2.2.2.1.1
              · omega
              · rw [if_pos ei, if_neg ej] at e
                exact absurd e.symm (hne j (by omega))
            · by_cases ej : j = C.2.2.2.1.1
              · rw [if_neg ei, if_pos ej] at e
                exact absurd e (hne i (by omega))
              · rw [if_neg ei, if_neg ej] at e
                exact d i j (by omega) (by omega) e
          · show C.2.2.2.2.2.1 = C.2.2.2.2.2.2.1 + zsum (fun i => (zup C.2.1 C.2.2.2.1.1 ((8 * y + x).toNat, r.toNat, p.toNat, 0, 0) i).2.2.2.2) (C.2.2.2.1.1 + 1)
            rw [zsum_congr (g := fun i => if i = C.2.2.2.1.1 then 0 else (C.2.1 i).2.2.2.2) _ (fun i _ => by unfold zup; split <;> rfl), zsum_up]
            exact t
    · exact h
  · exact h
theorem g_cp (h : zGd K C) (l p : Int) : zGd K (f_cp C l p).2.1 := by
  unfold f_cp
  split
  · split
    · split
      · exact h
      · obtain ⟨⟨o1, o2, o3⟩, d, s, t⟩ := h
        have hl : ∀ i, (zup C.2.1 l.toNat (lph (C.2.1 l.toNat) p.toNat) i).1 = (C.2.1 i).1 ∧ (zup C.2.1 l.toNat (lph (C.2.1 l.toNat) p.toNat) i).2.2.2.2 = (C.2.1 i).2.2.2.2 := fun i => by
          unfold zup
          split
          · rename_i e; rw [e]; exact ⟨rfl, rfl⟩
          · exact ⟨rfl, rfl⟩
        refine ⟨⟨o1, fun i => ?_, o3⟩, fun i j hi hj e => ?_, s, ?_⟩
        · refine zup_P (P := zLok K) (fun _ => ?_) (fun _ => o2 i)
          have := o2 l.toNat
          exact ⟨this.1, this.2.1, this.2.2.1, this.2.2.2.1, by show p.toNat < 8; omega, this.2.2.2.2.2⟩
        · have e : (zup C.2.1 l.toNat (lph (C.2.1 l.toNat) p.toNat) i).1 = (zup C.2.1 l.toNat (lph (C.2.1 l.toNat) p.toNat) j).1 := e
          rw [(hl i).1, (hl j).1] at e
          exact d i j hi hj e
        · show C.2.2.2.2.2.1 = C.2.2.2.2.2.2.1 + zsum (fun i => (zup C.2.1 l.toNat (lph (C.2.1 l.toNat) p.toNat) i).2.2.2.2) C.2.2.2.1.1
          rw [zsum_congr (g := fun i => (C.2.1 i).2.2.2.2) _ (fun i _ => (hl i).2)]
          exact t
    · exact h
  · exact h
theorem g_dl (h : zGd K C) (l : Int) : zGd K (f_dl C l).2.1 := by
  unfold f_dl
  split
  · rename_i hl
    obtain ⟨⟨o1, o2, o3, o4, o5, o6, o7, o8, o9⟩, d, s, t⟩ := h
    have hr := zsum_rot (fun i => (C.2.1 i).2.2.2.2) (i := l.toNat) (n := C.2.2.2.1.1) (by omega)
    unfold hSgt at t
    refine ⟨⟨o1, fun i => o2 _, o3, ?_, o5, o6, o7, ?_, o9⟩, fun i j hi hj e => ?_, s, ?_⟩
    · show C.2.2.2.1.1 - 1 ≤ 6
      omega
    · show C.2.2.2.2.2.2.1 + (C.2.1 l.toNat).2.2.2.2 ≤ K
      omega
    · have hi : i < C.2.2.2.1.1 - 1 := hi
      have hj : j < C.2.2.2.1.1 - 1 := hj
      have e : (C.2.1 (zrot l.toNat C.2.2.2.1.1 i)).1 = (C.2.1 (zrot l.toNat C.2.2.2.1.1 j)).1 := e
      have q : ∀ k, k < C.2.2.2.1.1 - 1 → zrot l.toNat C.2.2.2.1.1 k < C.2.2.2.1.1 := fun k hk => by unfold zrot; (repeat' split) <;> omega
      exact zrot_inj (by omega) (d _ _ (q i hi) (q j hj) e)
    · show C.2.2.2.2.2.1 = C.2.2.2.2.2.2.1 + (C.2.1 l.toNat).2.2.2.2 + zsum (fun i => (C.2.1 (zrot l.toNat C.2.2.2.1.1 i)).2.2.2.2) (C.2.2.2.1.1 - 1)
      omega
  · exact h
theorem g_ls (h : zGd K C) (x y dr : Int) : zGd K (f_ls C x y dr).2.1 := by
  unfold f_ls
  split
  · rename_i hv
    split
    · rename_i hr
      split
      · exact h
      · rename_i hn
        split
        · exact h
        · obtain ⟨⟨o1, o2, o3, o4, o5, o6⟩, d, s, t⟩ := h
          refine ⟨⟨o1, o2, fun i => ?_, o4, ?_, o6⟩, d, fun i hi => ?_, t⟩
          · refine zup_P (P := zSk K) (fun _ => ?_) (fun _ => o3 i)
            refine ⟨?_, ?_, (fun c e => by cases e), ?_⟩ <;> dsimp only <;> omega
          · show C.2.2.2.1.2 + 1 ≤ 6
            omega
          · have hi : i < C.2.2.2.1.2 + 1 := hi
            refine zup_P (P := hS1) (fun _ => ?_) (fun e => s i (by omega))
            exact ⟨by dsimp only; omega, fun _ => rfl, fun q => by cases q⟩
    · exact h
  · exact h
theorem g_cg (h : zGd K C) (l x y : Int) : zGd K (f_cg C l x y).2.1 := by
  unfold f_cg
  split
  · rename_i hv
    split
    · exact h
    · rename_i hw
      split
      · exact h
      · obtain ⟨⟨o1, o2, o3, o4⟩, d, s, t⟩ := h
        refine ⟨⟨o1, o2, fun i => ?_, o4⟩, d, fun i hi => ?_, t⟩
        · refine zup_P (P := zSk K) (fun _ => ?_) (fun _ => o3 i)
          · have := o3 l.toNat
            refine ⟨this.1, this.2.1, fun c e => ?_, this.2.2.2⟩
            have e : (if (8 * y + x).toNat = (C.2.2.1 l.toNat).1 then none else some (8 * y + x).toNat) = some c := e
            split at e
            · cases e
            · cases e
              omega
        · refine zup_P (P := hS1) (fun _ => ?_) (fun e => s i hi)
          · have := s l.toNat (by omega)
            refine ⟨this.1, fun q => absurd q hw, fun q => ?_⟩
            have q : (if (8 * y + x).toNat = (C.2.2.1 l.toNat).1 then none else some (8 * y + x).toNat) = some (C.2.2.1 l.toNat).1 := q
            split at q
            · cases q
            · rename_i ne
              exact ne (Option.some.inj q)
  · exact h
theorem g_sv (h : zGd K C) (l : Int) : zGd (K + 90) (f_sv C l).2.1 := by
  unfold f_sv
  split
  · split
    · have h9 := (h.1.2.2.1 l.toNat).2.1
      obtain ⟨⟨o1, o2, o3, o4, o5, o6, o7, o8, o9, o10⟩, d, s, t⟩ := h.mono (Nat.le_add_right K 90)
      have h10 := h.1.2.2.2.2.2.2.2.2.2
      refine ⟨⟨o1, o2, fun i => o3 _, o4, ?_, o6, o7, o8, o9, ?_⟩, d, fun i hi => ?_, t⟩
      · show C.2.2.2.1.2 - 1 ≤ 6
        omega
      · show C.2.2.2.2.2.2.2.2 + 10 * (C.2.2.1 l.toNat).2.1 ≤ K + 90
        omega
      · have hi : i < C.2.2.2.1.2 - 1 := hi
        exact s (zrot l.toNat C.2.2.2.1.2 i) (by unfold zrot; (repeat' split) <;> omega)
    · exact h.mono (Nat.le_add_right _ _)
  · exact h.mono (Nat.le_add_right _ _)
end
