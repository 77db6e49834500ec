/-! mathematics: minutes until a beam sweeps; opposite sectors -/
theorem f_mus_at {l : zLt} {mi sec t : Nat} : ∀ {n m : Nat}, m ≤ t → t < m + n → zBeam l (mi + t) = sec → (∀ j, m ≤ j → j < t → zBeam l (mi + j) ≠ sec) → f_mus l mi sec n m = t
  | 0, m, h1, h2, _, _ => absurd h2 (by omega)
  | n + 1, m, h1, h2, h3, h4 => by
    unfold f_mus
    by_cases e : zBeam l (mi + m) = sec
    · rw [if_pos e]
      by_cases hm : m = t
      · exact hm
      · exact absurd e (h4 m (Nat.le_refl _) (by omega))
    · rw [if_neg e]
      have hm : m ≠ t := fun q => e (by rw [q]; exact h3)
      exact f_mus_at (by omega) (by omega) h3 (fun j hj1 hj2 => h4 j (by omega) hj2)
/-- the minutes by division are those found minute by minute, and less than 24 -/
theorem f_mus_mud {K : Nat} {l : zLt} (hl : zLok K l) {mi sec : Nat} (hs : sec < 8) : (f_mus l mi sec 24 0 : Int) = f_mud l mi sec ∧ f_mus l mi sec 24 0 < 24 ∧ (f_mus l mi sec 24 0 = 0 ↔ zBeam l mi = sec) := by
  obtain ⟨-, -, hP8, hP24, hph, -⟩ := hl
  have hb : zBeam l mi < 8 := Nat.mod_lt _ (by decide)
  have hz : f_mus l mi sec 24 0 = 0 ↔ zBeam l mi = sec := by
    constructor
    · intro h
      unfold f_mus at h
      split at h
      · rename_i e; exact e
      · exfalso
        have key : ∀ n m : Nat, 0 < m → 0 < f_mus l mi sec n m := by
          intro n
          induction n with
          | zero => intro m hm; exact hm
          | succ n ih =>
            intro m hm
            unfold f_mus
            split
            · exact hm
            · exact ih _ (by omega)
        have := key 23 1 (by omega)
        have h : f_mus l mi sec 23 1 = 0 := h
        omega
    · intro h
      unfold f_mus
      rw [if_pos (show zBeam l (mi + 0) = sec from h)]
  by_cases h0 : zBeam l mi = sec
  · have e0 := hz.mpr h0
    have es : f_stps l mi sec = 0 := by unfold f_stps; omega
    refine ⟨?_, by omega, hz⟩
    unfold f_mud
    rw [if_pos es, e0]
    rfl
  · have es : f_stps l mi sec ≠ 0 := by unfold f_stps; omega
    have es8 : f_stps l mi sec < 8 := by unfold f_stps; omega
    have hst : (sec : Int) = ((zBeam l mi : Int) + f_stps l mi sec) % 8 := by unfold f_stps; omega
    have hP : l.2.2.1 = l.2.2.1 := rfl
    generalize hPe : l.2.2.1 = P at *
    have ht0 : zTurn l mi = 8 * mi / P := by unfold zTurn; rw [hPe]
    generalize hse : f_stps l mi sec = s at *
    have hw0 : zTurn l mi * P ≤ 8 * mi := by rw [ht0]; exact Nat.div_mul_le_self _ _
    have hw : (zTurn l mi + s) * P = zTurn l mi * P + s * P := Nat.add_mul _ _ _
    have hsP : s * P ≤ 7 * 24 := Nat.mul_le_mul (by omega) hP24
    have hw1 : 8 * mi < (zTurn l mi + 1) * P := by rw [ht0]; exact (Nat.div_lt_iff_lt_mul (by omega)).mp (Nat.lt_succ_self _)
    have hs1 : (zTurn l mi + 1) * P ≤ (zTurn l mi + s) * P := Nat.mul_le_mul_right _ (by omega)
    generalize hwe : (zTurn l mi + s) * P = w at *
    have hbm : ∀ m, zBeam l m = (l.2.2.2.1 + 8 * m / P) % 8 := fun m => by unfold zBeam zTurn; rw [hPe]
    have hmi : mi ≤ (w + 7) / 8 := by omega
    have hq : 8 * ((w + 7) / 8) / P = zTurn l mi + s := by
      apply Nat.le_antisymm
      · apply Nat.lt_succ_iff.mp
        rw [Nat.div_lt_iff_lt_mul (by omega), Nat.succ_eq_add_one, Nat.add_mul, hwe, Nat.one_mul]
        omega
      · rw [Nat.le_div_iff_mul_le (by omega), hwe]
        omega
    have hfin : f_mus l mi sec 24 0 = (w + 7) / 8 - mi := by
      refine f_mus_at (Nat.zero_le _) (by omega) ?_ (fun j _ hj => ?_)
      · rw [show mi + ((w + 7) / 8 - mi) = (w + 7) / 8 by omega, hbm, hq]
        have h1 := hbm mi
        rw [← ht0] at h1
        omega
      · have h1 : 8 * (mi + j) / P < zTurn l mi + s := by
          rw [Nat.div_lt_iff_lt_mul (by omega), hwe]
          omega
        have h2 : zTurn l mi ≤ 8 * (mi + j) / P := by
          rw [ht0]; exact Nat.div_le_div_right (by omega)
        have h3 := hbm mi
        rw [← ht0] at h3
        rw [hbm]
        generalize 8 * (mi + j) / P = T at h1 h2
        omega
    refine ⟨?_, by omega, hz⟩
    rw [hfin]
    unfold f_mud
    rw [hse, if_neg es, hPe]
    have : ((zTurn l mi : Int) + s) * P = (w : Int) := by rw [← hwe]; push_cast; rfl
    rw [this]
    omega
theorem zSecD_opp {dx dy : Int} (h : ¬ (dx = 0 ∧ dy = 0)) : zSecD (-dx) (-dy) = (zSecD dx dy + 4) % 8 := by
  unfold zSecD zUp
  rw [Int.neg_neg, Int.neg_neg]
  by_cases h1 : 0 < dy ∨ (dy = 0 ∧ 0 < dx)
  · rw [if_neg (show ¬ (0 < -dy ∨ (-dy = 0 ∧ 0 < -dx)) by omega), if_pos h1]
    (repeat' split) <;> omega
  · rw [if_pos (show 0 < -dy ∨ (-dy = 0 ∧ 0 < -dx) by omega), if_neg h1]
    (repeat' split) <;> omega
theorem f_rch_own (C : zCo) (l : zLt) : f_rch C l l.1 = true := by
  have hx : zDx l.1 l.1 = 0 := Int.sub_self _
  have hy : zDy l.1 l.1 = 0 := Int.sub_self _
  have hr : (0 : Int) ≤ (l.2.1 : Int) * l.2.1 := Int.mul_nonneg (by omega) (by omega)
  unfold f_rch
  rw [hx, hy, if_neg (by omega)]
  rfl
