/-! mathematics: the lengths that the search finds are those of shortest ways -/
/-- a way of n steps from s to c over open cells -/
def wk (op : Nat → Bool) (s : Nat) : Nat → Nat → Prop
  | 0, c => c = s
  | n + 1, c => op c = true ∧ ∃ c' d, d < 4 ∧ wk op s n c' ∧ zNb c' d = some c
/-- the step from c in the direction d is minded -/
def eOk (op : Nat → Bool) (ln : Nat → Option Nat) (c d : Nat) : Prop := ∀ t, zNb c d = some t → op t = true → ∃ m, ln t = some m ∧ (m : Int) ≤ zGo (ln c) + 1
def bJ (op : Nat → Bool) (s nx d : Nat) (S : zBs) : Prop :=
  (S.2.2.2 ≤ 64 ∧ ∀ i, i < S.2.2.2 → S.2.2.1 i < 64) ∧ (∀ i, i < S.2.2.2 → ∃ k, S.1 (S.2.2.1 i) = some k) ∧ (∀ i j, i < S.2.2.2 → j < S.2.2.2 → S.2.2.1 i = S.2.2.1 j → i = j) ∧ (∀ c k, S.1 c = some k → ∃ i, i < S.2.2.2 ∧ S.2.2.1 i = c) ∧ (∀ i j, i ≤ j → j < S.2.2.2 → zGo (S.1 (S.2.2.1 i)) ≤ zGo (S.1 (S.2.2.1 j))) ∧ (∀ j, j < S.2.2.2 → nx < S.2.2.2 → zGo (S.1 (S.2.2.1 j)) ≤ zGo (S.1 (S.2.2.1 nx)) + 1) ∧ (∀ i, i < nx → i < S.2.2.2 → ∀ e, e < 4 → eOk op S.1 (S.2.2.1 i) e) ∧ (nx < S.2.2.2 → ∀ e, e < d → eOk op S.1 (S.2.2.1 nx) e) ∧ ∀ c k, S.1 c = some k → wk op s k c
theorem bStep_J {op : Nat → Bool} {s nx d : Nat} {S : zBs} (J : bJ op s nx d S) (hn : nx < S.2.2.2) (hd : d < 4) : bJ op s nx (d + 1) (bStep op nx d S) := by
  obtain ⟨ln, fc, qu, f⟩ := S
  obtain ⟨⟨j0, j1⟩, j2, j3, j4, j5, j6, j7, j8, j9⟩ := J
  dsimp only at j0 j1 j2 j3 j4 j5 j6 j7 j8 j9 hn
  obtain ⟨k0, hk0⟩ := j2 nx hn
  have same : eOk op ln (qu nx) d → bJ op s nx (d + 1) (ln, fc, qu, f) := fun h => ⟨⟨j0, j1⟩, j2, j3, j4, j5, j6, j7, fun h1 e he => by
    by_cases q : e = d
    · subst q; exact h
    · exact j8 h1 e (by omega), j9⟩
  unfold bStep
  dsimp only
  cases hz : zNb (qu nx) d with
  | none => exact same (fun t ht => by rw [hz] at ht; cases ht)
  | some t =>
    have ht := zNb_lt (j1 nx hn) hz
    have known : ∀ m, ln t = some m → eOk op ln (qu nx) d := fun m hm t' ht' _ => by
      rw [hz] at ht'; cases ht'
      obtain ⟨i, hi, hq⟩ := j4 t m hm
      have h6 := j6 i hi hn
      rw [hq, hm] at h6
      exact ⟨m, hm, h6⟩
    dsimp only
    by_cases h1 : 64 ≤ f
    · rw [if_pos h1]
      have hf : f = 64 := by omega
      subst hf
      obtain ⟨i, hi, hq⟩ := fb_onto (n := 64) (f := qu) (fun i hi => j1 i hi) (fun i j hij hj e => absurd (j3 i j (by omega) hj e) (by omega)) ht
      obtain ⟨k, hk⟩ := j2 i hi
      rw [hq] at hk
      exact same (known k hk)
    rw [if_neg h1]
    by_cases h2 : op t = false
    · rw [if_pos h2]
      exact same (fun t' ht' ho => by rw [hz] at ht'; cases ht'; rw [h2] at ho; cases ho)
    rw [if_neg h2]
    by_cases h3 : ln t = none
    · rw [if_pos h3]
      have hnew : (zGo (ln (qu nx)) + 1).toNat = k0 + 1 := by rw [hk0]; show ((k0 : Int) + 1).toNat = k0 + 1; omega
      rw [hnew]
      have hnt : ∀ i, i < f → qu i ≠ t := fun i hi e => by
        obtain ⟨k, hk⟩ := j2 i hi
        rw [e, h3] at hk; cases hk
      have old : ∀ i, i < f → zup ln t (some (k0 + 1)) (zup qu f t i) = ln (qu i) := fun i hi => by rw [zup_n (by omega : i ≠ f), zup_n (hnt i hi)]
      have new : zup ln t (some (k0 + 1)) (zup qu f t f) = some (k0 + 1) := by rw [zup_s, zup_s]
      have eold : ∀ c e, c ≠ t → eOk op ln c e → eOk op (zup ln t (some (k0 + 1))) c e := fun c e hc h t' ht' ho => by
        obtain ⟨m, hm, hle⟩ := h t' ht' ho
        have htt : t' ≠ t := fun q => by rw [q, h3] at hm; cases hm
        exact ⟨m, by rw [zup_n htt]; exact hm, by rw [zup_n hc]; exact hle⟩
      refine ⟨⟨by show f + 1 ≤ 64; omega, fun i hi => ?_⟩, fun i hi => ?_, fun i j hi hj e => ?_, fun c k hc => ?_, fun i j hij hj => ?_, fun j hj _ => ?_, fun i hi hi2 e he => ?_, fun _ e he => ?_, fun c k hc => ?_⟩
      · have hi : i < f + 1 := hi
        show zup qu f t i < 64
        by_cases e : i = f
        · rw [e, zup_s]; exact ht
        · rw [zup_n e]; exact j1 i (by omega)
      · have hi : i < f + 1 := hi
        show ∃ k, zup ln t _ (zup qu f t i) = some k
        by_cases e : i = f
        · rw [e, new]; exact ⟨_, rfl⟩
        · rw [old i (by omega)]; exact j2 i (by omega)
      · have hi : i < f + 1 := hi
        have hj : j < f + 1 := hj
        have e : zup qu f t i = zup qu f t j := e
        by_cases ei : i = f
        · by_cases ej : j = f
          · omega
          · rw [ei, zup_s, zup_n ej] at e; exact absurd e.symm (hnt j (by omega))
        · by_cases ej : j = f
          · rw [ej, zup_s, zup_n ei] at e; exact absurd e (hnt i (by omega))
          · rw [zup_n ei, zup_n ej] at e; exact j3 i j (by omega) (by omega) e
      · show ∃ i, i < f + 1 ∧ zup qu f t i = c
        have hc : zup ln t _ c = some k := hc
        by_cases e : c = t
        · exact ⟨f, by omega, by rw [zup_s, e]⟩
        · rw [zup_n e] at hc
          obtain ⟨i, hi, hq⟩ := j4 c k hc
          exact ⟨i, by omega, by rw [zup_n (by omega : i ≠ f)]; exact hq⟩
      · have hj : j < f + 1 := hj
        show zGo (zup ln t _ (zup qu f t i)) ≤ zGo (zup ln t _ (zup qu f t j))
        by_cases ej : j = f
        · rw [ej, new]
          by_cases ei : i = f
          · rw [ei, new]; exact Int.le_refl _
          · rw [old i (by omega)]
            have := j6 i (by omega) hn
            rw [hk0] at this
            exact this
        · rw [old j (by omega), old i (by omega)]; exact j5 i j hij (by omega)
      · have hj : j < f + 1 := hj
        show zGo (zup ln t _ (zup qu f t j)) ≤ zGo (zup ln t _ (zup qu f t nx)) + 1
        rw [old nx hn]
        by_cases ej : j = f
        · rw [ej, new, hk0]; exact Int.le_refl _
        · rw [old j (by omega)]; exact j6 j (by omega) hn
      · show eOk op (zup ln t _) (zup qu f t i) e
        rw [zup_n (by omega : i ≠ f)]
        exact eold _ _ (hnt i (by omega)) (j7 i hi (by omega) e he)
      · show eOk op (zup ln t _) (zup qu f t nx) e
        rw [zup_n (by omega : nx ≠ f)]
        by_cases q : e = d
        · subst q
          intro t' ht' ho
          rw [hz] at ht'; cases ht'
          exact ⟨k0 + 1, zup_s _ _ _, by rw [zup_n (hnt nx hn), hk0]; exact Int.le_refl _⟩
        · exact eold _ _ (hnt nx hn) (j8 hn e (by omega))
      · have hc : zup ln t _ c = some k := hc
        by_cases e : c = t
        · rw [e, zup_s] at hc
          cases hc
          rw [e]
          exact ⟨by cases ho : op t <;> simp_all, qu nx, d, hd, j9 _ _ hk0, hz⟩
        · rw [zup_n e] at hc; exact j9 c k hc
    · rw [if_neg h3]
      cases hm : ln t with
      | none => exact absurd hm h3
      | some m => exact same (known m hm)
theorem bIn_J {op : Nat → Bool} {s nx : Nat} : ∀ {n d : Nat} {S : zBs}, n + d = 4 → bJ op s nx d S → bInv S → nx < S.2.2.2 → bJ op s nx 4 (bIn op nx n d S) ∧ nx < (bIn op nx n d S).2.2.2
  | 0, d, S, hd, J, _, hn => by
    have : d = 4 := by omega
    subst this
    exact ⟨J, hn⟩
  | n + 1, d, S, hd, J, I, hn => by
    obtain ⟨a, b, -⟩ := bStep_inv (op := op) (d := d) I hn
    exact bIn_J (n := n) (d := d + 1) (by omega) (bStep_J J hn (by omega)) a (by omega)
theorem bIn_I {op : Nat → Bool} {nx : Nat} : ∀ {n d : Nat} {S : zBs}, bInv S → nx < S.2.2.2 → bInv (bIn op nx n d S)
  | 0, _, _, h, _ => h
  | n + 1, d, S, h, hn => by
    obtain ⟨a, b, -⟩ := bStep_inv (op := op) (d := d) h hn
    exact bIn_I (n := n) (d := d + 1) a (by omega)
theorem bStep_keep {op : Nat → Bool} {nx d : Nat} {S : zBs} {c k : Nat} (h : S.1 c = some k) : (bStep op nx d S).1 c = some k := by
  unfold bStep
  cases hz : zNb (S.2.2.1 nx) d with
  | none => exact h
  | some t =>
    dsimp only
    by_cases h1 : 64 ≤ S.2.2.2
    · rw [if_pos h1]; exact h
    rw [if_neg h1]
    by_cases h2 : op t = false
    · rw [if_pos h2]; exact h
    rw [if_neg h2]
    by_cases h3 : S.1 t = none
    · rw [if_pos h3]
      show zup S.1 t _ c = some k
      rw [zup_n (fun e => by rw [e, h3] at h; cases h)]
      exact h
    · rw [if_neg h3]; exact h
theorem bIn_keep {op : Nat → Bool} {nx c k : Nat} : ∀ {n d : Nat} {S : zBs}, S.1 c = some k → (bIn op nx n d S).1 c = some k
  | 0, _, _, h => h
  | n + 1, d, S, h => bIn_keep (n := n) (d := d + 1) (bStep_keep h)
theorem bOut_keep {op : Nat → Bool} {c k : Nat} : ∀ {n nx : Nat} {S : zBs}, S.1 c = some k → (bOut op n nx S).1 c = some k
  | 0, _, _, h => h
  | n + 1, nx, S, h => by
    unfold bOut
    split
    · exact bOut_keep (bIn_keep h)
    · exact h
theorem bOut_J {op : Nat → Bool} {s : Nat} : ∀ {n nx : Nat} {S : zBs}, n + nx = 64 → bJ op s nx 0 S → bInv S → bJ op s 64 0 (bOut op n nx S)
  | 0, nx, S, hn, J, _ => by
    have : nx = 64 := by omega
    subst this
    exact J
  | n + 1, nx, S, hn, J, I => by
    unfold bOut
    by_cases h : nx < S.2.2.2
    · rw [if_pos h]
      obtain ⟨⟨⟨j0, j1⟩, j2, j3, j4, j5, j6, j7, j8, j9⟩, h2⟩ := bIn_J (n := 4) (d := 0) rfl J I h
      refine bOut_J (n := n) (nx := nx + 1) (by omega) ⟨⟨j0, j1⟩, j2, j3, j4, j5, fun j hj hx => ?_, fun i hi hi2 e he => ?_, fun _ e he => absurd he (Nat.not_lt_zero e), j9⟩ (bIn_I (n := 4) (d := 0) I h)
      · have h5 := j5 nx (nx + 1) (by omega) hx
        have h6 := j6 j hj h2
        omega
      · by_cases q : i = nx
        · subst q; exact j8 h2 e he
        · exact j7 i (by omega) hi2 e he
    · rw [if_neg h]
      obtain ⟨⟨j0, j1⟩, j2, j3, j4, j5, j6, j7, j8, j9⟩ := J
      exact ⟨⟨j0, j1⟩, j2, j3, j4, j5, fun j _ h64 => absurd h64 (by omega), fun i _ hi2 e he => j7 i (by omega) hi2 e he, fun h64 => absurd h64 (by omega), j9⟩
theorem f_bfs_J {op : Nat → Bool} {s : Nat} (hs : s < 64) : bJ op s 64 0 (f_bfs op s (fun _ => 0) (fun _ => 0)) := by
  have hq : ∀ i, i < 1 → zup (fun _ => 0) 0 s i = s := fun i hi => by rw [show i = 0 by omega, zup_s]
  have hb : f_bg s s = some 0 := if_pos rfl
  refine bOut_J (n := 64) (nx := 0) rfl ⟨⟨(by omega : 1 ≤ 64), fun i hi => ?_⟩, fun i hi => ?_, fun i j hi hj _ => ?_, fun c k hc => ?_, fun i j hij hj => ?_, fun j hj _ => ?_, fun i hi => absurd hi (Nat.not_lt_zero i), fun _ e he => absurd he (Nat.not_lt_zero e), fun c k hc => ?_⟩ ⟨(by omega : 1 ≤ 64), fun i hi => ?_, fun c => f_bg_b s c⟩
  · show zup (fun _ => 0) 0 s i < 64
    rw [hq i hi]; exact hs
  · show ∃ k, f_bg s (zup (fun _ => 0) 0 s i) = some k
    rw [hq i hi]; exact ⟨0, hb⟩
  · have hi : i < 1 := hi
    have hj : j < 1 := hj
    omega
  · have hc : f_bg s c = some k := hc
    unfold f_bg at hc
    split at hc
    · rename_i e; exact ⟨0, Nat.one_pos, by rw [e]; exact hq 0 Nat.one_pos⟩
    · cases hc
  · have hj : j < 1 := hj
    rw [show i = j by omega]
    exact Int.le_refl _
  · have hj : j < 1 := hj
    rw [show j = 0 by omega]
    omega
  · have hc : f_bg s c = some k := hc
    unfold f_bg at hc
    split at hc
    · rename_i e; cases hc; exact e
    · cases hc
  · show zup (fun _ => 0) 0 s i < 64
    rw [hq i hi]; exact hs
/-- a found length is that of a way -/
theorem f_ln_wk {op : Nat → Bool} {s c k : Nat} (hs : s < 64) (h : f_ln op s c = some k) : wk op s k c := (f_bfs_J hs).2.2.2.2.2.2.2.2 c k h
/-- where there is a way, a length is found that is at most its own -/
theorem f_ln_of {op : Nat → Bool} {s : Nat} (hs : s < 64) : ∀ {n c : Nat}, wk op s n c → ∃ m, f_ln op s c = some m ∧ m ≤ n
  | 0, c, h => by
    have h : c = s := h
    subst h
    exact ⟨0, bOut_keep (if_pos rfl), Nat.le_refl _⟩
  | n + 1, c, h => by
    obtain ⟨ho, c', d, hd, hw, hz⟩ := h
    obtain ⟨m, hm, hle⟩ := f_ln_of hs hw
    obtain ⟨⟨j0, j1⟩, j2, j3, j4, j5, j6, j7, j8, j9⟩ := f_bfs_J (op := op) hs
    obtain ⟨i, hi, hq⟩ := j4 c' m hm
    obtain ⟨m2, hm2, hle2⟩ := j7 i (by omega) hi d hd c (by rw [hq]; exact hz) ho
    have hm : (f_bfs op s (fun _ => 0) (fun _ => 0)).1 c' = some m := hm
    rw [hq, hm] at hle2
    have hle2 : (m2 : Int) ≤ (m : Int) + 1 := hle2
    exact ⟨m2, hm2, by omega⟩
theorem f_ln_none {op : Nat → Bool} {s c : Nat} (hs : s < 64) : f_ln op s c = none ↔ ∀ n, ¬ wk op s n c := by
  constructor
  · intro h n hw
    obtain ⟨m, hm, -⟩ := f_ln_of hs hw
    rw [h] at hm; cases hm
  · intro h
    cases e : f_ln op s c with
    | none => rfl
    | some k => exact absurd (f_ln_wk hs e) (h k)
theorem f_ln_own {op : Nat → Bool} {s : Nat} : f_ln op s s = some 0 := bOut_keep (if_pos rfl)
