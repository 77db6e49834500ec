/-! where a light stands -/
def hDis (C : zCo) : Prop := ∀ i j, i < C.2.2.2.1.1 → j < C.2.2.2.1.1 → (C.2.1 i).1 = (C.2.1 j).1 → i = j
theorem f_lix_some {C : zCo} {c : Nat} : ∀ {n i j : Nat}, i ≤ j → j < i + n → (C.2.1 j).1 = c → ∃ m, f_lix C c n i = some m
  | 0, i, j, h1, h2, _ => absurd h2 (by omega)
  | n + 1, i, j, h1, h2, h3 => by
    unfold f_lix
    by_cases h : (C.2.1 i).1 = c
    · exact ⟨i, by rw [if_pos h]⟩
    · rw [if_neg h]
      have hij : i ≠ j := fun e => h (by rw [e]; exact h3)
      exact f_lix_some (i := i + 1) (j := j) (by omega) (by omega) h3
theorem f_lix_at {C : zCo} (hd : hDis C) {i : Nat} (hi : i < C.2.2.2.1.1) : f_lix C (C.2.1 i).1 C.2.2.2.1.1 0 = some i := by
  obtain ⟨m, hm⟩ := f_lix_some (C := C) (n := C.2.2.2.1.1) (i := 0) (j := i) (Nat.zero_le _) (by omega) rfl
  have := f_lix_lt hm
  rw [hm, hd m i (by omega) hi this.2.2]
section
variable {o K : Nat} {S : zBt} {h : zH}
theorem w_placeOf {i : Nat} (hi : i < S.1.2.2.2.1.1) (hd : hDis S.1) (R : zRB o S h) (hO : zOk K S.1) (hK : K < 1700000) : zMet yL_placeOf cL_placeOf 3 (some .int) 12 128 768 [.ref o, .int (iI i)] h (fun v h' => v = some (.int (iI (S.1.2.1 i).1)) ∧ zRB o S h') (fun _ _ => False) := by
  refine zMet.go (by decide +kernel) (Nat.le_of_ble_eq_true rfl) ?_
  intro X F B hnl hR hn
  have hc := (hO.2.1 i).1
  have hl6 := hO.2.2.2.1
  refine zi_iconst F dL_placeOf_0 ?_
  refine z_istore_n F dL_placeOf_1 rfl rfl (hnl _ rfl) ?_
  suffices KK : ∀ n p : Nat, n + p = (S.1.2.1 i).1 → ∀ h1 : zH, zRB o S h1 → Z X (2 * p) (12 * p) 2 [(2, .int (iI p)), (0, .ref o), (1, .int (iI i))] [] h1 from Z.keys [2, 0, 1] rfl (KK (S.1.2.1 i).1 0 rfl h R)
  intro n
  induction n with
  | zero =>
    intro p hp h1 R1
    have ep : (8 * ((p : Int) / 8) + (p : Int) % 8).toNat = p := by omega
    have hg : g_lightOn S.1 ((p : Int) % 8) ((p : Int) / 8) = (i : Int) := by
      unfold g_lightOn
      rw [if_pos (by omega), ep, show p = (S.1.2.1 i).1 by omega, f_lix_at hd hi]
      rfl
    refine z_aload_n F dL_placeOf_2 rfl rfl ?_
    refine z_iload_n F dL_placeOf_3 rfl rfl ?_
    refine zi_bipush F dL_placeOf_4 (by decide) ?_
    refine zi_irem F dL_placeOf_6 (by omega) ?_
    refine z_iload_n F dL_placeOf_7 rfl rfl ?_
    refine zi_bipush F dL_placeOf_8 (by decide) ?_
    refine zi_idiv F dL_placeOf_10 (by omega) ?_
    refine z_callSH F B calH_yL_lightOn (w_lightOn (x := (p : Int) % 8) (y := (p : Int) / 8) ⟨by omega, by omega⟩ ⟨by omega, by omega⟩ R1 hO hK) dL_placeOf_11 rfl rfl (Nat.le_of_ble_eq_true rfl) (by decide) (by omega) (by omega) ml_L_264 st_yL_lightOn (fun v hX qX => ?_) (fun C h1 q => q.elim)
    obtain ⟨rfl, R2⟩ := qX
    rw [hg]
    refine z_iload_n F dL_placeOf_14 rfl rfl ?_
    refine zi_icmp_eq (tgt := 24) F dL_placeOf_15 (by decide) (by first | omega | (dsimp only at *; omega)) (fun c15 => ?_) (fun c15 => False.elim (by first | omega | (dsimp only at *; omega)))
    refine z_iload_n F dL_placeOf_24 rfl rfl ?_
    exact Z.widen (by omega) (by omega) (z_ireturn F rfl B dL_placeOf_25 ⟨vInt (by omega), R2⟩)
  | succ n ih =>
    intro p hp h1 R1
    have ep : (8 * ((p : Int) / 8) + (p : Int) % 8).toNat = p := by omega
    have hg : g_lightOn S.1 ((p : Int) % 8) ((p : Int) / 8) ≠ (i : Int) ∧ -2147483648 ≤ g_lightOn S.1 ((p : Int) % 8) ((p : Int) / 8) ∧ g_lightOn S.1 ((p : Int) % 8) ((p : Int) / 8) < 2147483648 := by
      unfold g_lightOn
      rw [if_pos (by omega), ep]
      cases hf : f_lix S.1 p S.1.2.2.2.1.1 0 with
      | none => simp only [zNo]; omega
      | some m =>
        have hm := f_lix_lt hf
        have hmi : m ≠ i := fun e => by rw [e] at hm; omega
        simp only [zNo]; omega
    refine z_aload_n F dL_placeOf_2 rfl rfl ?_
    refine z_iload_n F dL_placeOf_3 rfl rfl ?_
    refine zi_bipush F dL_placeOf_4 (by decide) ?_
    refine zi_irem F dL_placeOf_6 (by omega) ?_
    refine z_iload_n F dL_placeOf_7 rfl rfl ?_
    refine zi_bipush F dL_placeOf_8 (by decide) ?_
    refine zi_idiv F dL_placeOf_10 (by omega) ?_
    refine z_callSH F B calH_yL_lightOn (w_lightOn (x := (p : Int) % 8) (y := (p : Int) / 8) ⟨by omega, by omega⟩ ⟨by omega, by omega⟩ R1 hO hK) dL_placeOf_11 rfl rfl (Nat.le_of_ble_eq_true rfl) (by decide) (by omega) (by omega) ml_L_264 st_yL_lightOn (fun v hX qX => ?_) (fun C h1 q => q.elim)
    obtain ⟨rfl, R2⟩ := qX
    refine z_iload_n F dL_placeOf_14 rfl rfl ?_
    refine zi_icmp_eq (tgt := 24) F dL_placeOf_15 (by decide) (by first | omega | (dsimp only at *; omega)) (fun c15 => False.elim (by first | omega | (dsimp only at *; omega))) (fun c15 => ?_)
    refine zi_iinc F dL_placeOf_18 rfl rfl (hnl _ rfl) ?_
    refine z_goto (tgt := 2) F dL_placeOf_21 (by decide) ?_
    exact Z.widen (by omega) (by omega) (Z.keys [2, 0, 1] rfl (ih (p + 1) (by omega) _ R2))
end
