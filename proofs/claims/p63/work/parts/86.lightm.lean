/-! what isLight finds, cell by cell -/
theorem zNN (n : Nat) : zNo (some n) = (n : Int) := rfl
theorem cell_rc {k : Nat} : (8 * ((k : Int) / 8) + (k : Int) % 8).toNat = k := by omega
theorem lgt_facts {K i k : Nat} {C : zCo} (hO : zOk K C) (hi : i < C.2.2.2.1.1) (hk : k < 64) :
    (k = (C.2.1 i).1 → g_sec C i ((k : Int) % 8) ((k : Int) / 8) = -1000) ∧
    (¬ k = (C.2.1 i).1 → 0 ≤ g_sec C i ((k : Int) % 8) ((k : Int) / 8) ∧ g_sec C i ((k : Int) % 8) ((k : Int) / 8) < 8 ∧
      (g_sec C i (2 * (((C.2.1 i).1 : Int) % 8) - (k : Int) % 8) (2 * (((C.2.1 i).1 : Int) / 8) - (k : Int) / 8) = -1000 ∨ g_sec C i (2 * (((C.2.1 i).1 : Int) % 8) - (k : Int) % 8) (2 * (((C.2.1 i).1 : Int) / 8) - (k : Int) / 8) = (g_sec C i ((k : Int) % 8) ((k : Int) / 8) + 4) % 8)) ∧
    (f_rch C (C.2.1 i) k = true → 0 ≤ g_mut C i ((k : Int) % 8) ((k : Int) / 8) ∧ g_mut C i ((k : Int) % 8) ((k : Int) / 8) < 24) ∧
    (f_rch C (C.2.1 i) k = false → g_mut C i ((k : Int) % 8) ((k : Int) / 8) = -1000) ∧
    g_mut2 C i ((k : Int) % 8) ((k : Int) / 8) = g_mut C i ((k : Int) % 8) ((k : Int) / 8) ∧
    (f_swp C (C.2.1 i) k = true ↔ g_mut C i ((k : Int) % 8) ((k : Int) / 8) = 0) ∧
    (f_rch C (C.2.1 i) k = true → ¬ k = (C.2.1 i).1 → (g_mut C i ((k : Int) % 8) ((k : Int) / 8) = 0 ↔ (zBeam (C.2.1 i) C.2.2.2.2.1 : Int) = g_sec C i ((k : Int) % 8) ((k : Int) / 8))) := by
  have hl := hO.2.1 i
  have hp := hl.1
  have hsec : zSec (C.2.1 i).1 k < 8 := zSec_lt _ _
  obtain ⟨hm1, hm2, hm3⟩ := f_mus_mud (K := K) (l := C.2.1 i) hl (mi := C.2.2.2.2.1) hsec
  have es : g_sec C i ((k : Int) % 8) ((k : Int) / 8) = if k = (C.2.1 i).1 then -1000 else (zSec (C.2.1 i).1 k : Int) := by
    unfold g_sec
    rw [cell_rc, Int.toNat_natCast]
    by_cases e : k = (C.2.1 i).1
    · rw [if_neg (fun q => q.2.2 e), if_pos e]
    · rw [if_pos ⟨by omega, by omega, e⟩, if_neg e]
  have em : g_mut C i ((k : Int) % 8) ((k : Int) / 8) = if f_rch C (C.2.1 i) k = true then (f_mut C (C.2.1 i) k : Int) else -1000 := by
    unfold g_mut
    rw [cell_rc, Int.toNat_natCast]
    by_cases e : f_rch C (C.2.1 i) k = true
    · rw [if_pos ⟨by omega, by omega, e⟩, if_pos e]
    · rw [if_neg (fun q => e q.2.2), if_neg e]
  have em2 : g_mut2 C i ((k : Int) % 8) ((k : Int) / 8) = if f_rch C (C.2.1 i) k = true then f_mut2 C (C.2.1 i) k else -1000 := by
    unfold g_mut2
    rw [cell_rc, Int.toNat_natCast]
    by_cases e : f_rch C (C.2.1 i) k = true
    · rw [if_pos ⟨by omega, by omega, e⟩, if_pos e]
    · rw [if_neg (fun q => e q.2.2), if_neg e]
  have efm : f_mut2 C (C.2.1 i) k = (f_mut C (C.2.1 i) k : Int) := by
    unfold f_mut2 f_mut
    split
    · rfl
    · exact hm1.symm
  have hmlt : f_mut C (C.2.1 i) k < 24 := by
    unfold f_mut
    split
    · decide
    · exact hm2
  refine ⟨fun e => by rw [es, if_pos e], fun e => ?_, fun e => ?_, fun e => ?_, ?_, ?_, fun e1 e2 => ?_⟩
  · rw [es, if_neg e]
    refine ⟨by omega, by omega, ?_⟩
    unfold g_sec
    generalize ha : (8 * (2 * (((C.2.1 i).1 : Int) / 8) - (k : Int) / 8) + (2 * (((C.2.1 i).1 : Int) % 8) - (k : Int) % 8)).toNat = a
    rw [Int.toNat_natCast]
    by_cases hv : (0 ≤ 2 * (((C.2.1 i).1 : Int) % 8) - (k : Int) % 8 ∧ 2 * (((C.2.1 i).1 : Int) % 8) - (k : Int) % 8 < 8 ∧ 0 ≤ 2 * (((C.2.1 i).1 : Int) / 8) - (k : Int) / 8 ∧ 2 * (((C.2.1 i).1 : Int) / 8) - (k : Int) / 8 < 8)
    · have ea : ¬ a = (C.2.1 i).1 := by omega
      rw [if_pos ⟨by omega, hv, ea⟩]
      refine Or.inr ?_
      have d1 : zDx (C.2.1 i).1 a = -zDx (C.2.1 i).1 k := by unfold zDx; omega
      have d2 : zDy (C.2.1 i).1 a = -zDy (C.2.1 i).1 k := by unfold zDy; omega
      have d3 : ¬ (zDx (C.2.1 i).1 k = 0 ∧ zDy (C.2.1 i).1 k = 0) := by unfold zDx zDy; omega
      have := zSecD_opp d3
      unfold zSec
      rw [d1, d2, this]
      omega
    · rw [if_neg (fun q => hv q.2.1)]
      exact Or.inl rfl
  · rw [em, if_pos e]
    omega
  · rw [em, if_neg (by rw [e]; decide)]
  · rw [em, em2, efm]
  · rw [em]
    unfold f_swp f_mut
    by_cases e : k = (C.2.1 i).1
    · rw [if_pos e, if_pos e, e, if_pos (f_rch_own C (C.2.1 i))]
      exact ⟨fun _ => rfl, fun _ => rfl⟩
    · rw [if_neg e, if_neg e]
      by_cases e2 : f_rch C (C.2.1 i) k = true
      · rw [if_pos e2, e2]
        by_cases e3 : zBeam (C.2.1 i) C.2.2.2.2.1 = zSec (C.2.1 i).1 k
        · rw [if_pos e3]
          exact ⟨fun _ => by have := hm3.mpr e3; omega, fun _ => rfl⟩
        · rw [if_neg e3]
          exact ⟨(fun q => by cases q), fun q => absurd (hm3.mp (by omega)) e3⟩
      · rw [if_neg e2]
        rw [Bool.not_eq_true] at e2
        rw [e2]
        constructor
        · intro q
          split at q <;> cases q
        · intro q
          omega
  · rw [em, if_pos e1, es, if_neg e2]
    unfold f_mut
    rw [if_neg e2]
    constructor
    · intro q
      have := hm3.mp (by omega)
      omega
    · intro q
      have := hm3.mpr (by omega)
      omega
theorem bc_cnt (C : zCo) (l : zLt) : bc64 (f_rm C l) = nI (zcnt (f_rch C l) 64) := by
  unfold f_rm
  rw [mk_mv _ 64 (Nat.le_refl _), bc64_mv]
