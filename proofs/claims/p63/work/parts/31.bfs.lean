/-! what the search finds doesn't hang on what stood in its arrays before -/
def bR (S S' : zBs) : Prop := S.1 = S'.1 ∧ S.2.2.2 = S'.2.2.2 ∧ (∀ i, i < S.2.2.2 → S.2.2.1 i = S'.2.2.1 i) ∧ (∀ c, 0 < zGo (S.1 c) → S.2.1 c = S'.2.1 c ∧ S.2.1 c < 64) ∧ (∀ i, i < S.2.2.2 → 0 ≤ zGo (S.1 (S.2.2.1 i))) ∧ ∀ i, 0 < i → i < S.2.2.2 → 0 < zGo (S.1 (S.2.2.1 i))
theorem bStep_R {op : Nat → Bool} {nx d : Nat} {s s' : zBs} (I : bInv s) (R : bR s s') (hn : nx < s.2.2.2) : bR (bStep op nx d s) (bStep op nx d s') := by
  have R0 := R
  obtain ⟨ln, fc, qu, f⟩ := s
  obtain ⟨ln', fc', qu', f'⟩ := s'
  obtain ⟨r1, r2, r3, r4, r5, r6⟩ := R
  obtain ⟨i1, i2, i3⟩ := I
  dsimp only at r1 r2 r3 r4 r5 r6 i1 i2 i3 hn
  subst r1; subst r2
  have hq := r3 nx hn
  unfold bStep
  dsimp only
  rw [← hq]
  cases hz : zNb (qu nx) d with
  | none => exact R0
  | some t =>
    have ht := zNb_lt (i2 nx hn) hz
    dsimp only
    by_cases h1 : 64 ≤ f
    · rw [if_pos h1, if_pos h1]; exact R0
    rw [if_neg h1, if_neg h1]
    by_cases h2 : op t = false
    · rw [if_pos h2, if_pos h2]; exact R0
    rw [if_neg h2, if_neg h2]
    by_cases h3 : ln t = none
    · rw [if_pos h3, if_pos h3]
      have h5 := r5 nx hn
      have hv : (1 : Int) ≤ zGo (some ((zGo (ln (qu nx)) + 1).toNat)) := by show (1 : Int) ≤ (((zGo (ln (qu nx)) + 1).toNat : Nat) : Int); omega
      have e1 : ∀ c, zGo (ln c) ≤ zGo (zup ln t (some ((zGo (ln (qu nx)) + 1).toNat)) c) ∨ c = t := fun c => by
        by_cases e : c = t
        · exact Or.inr e
        · rw [zup_n e]; exact Or.inl (Int.le_refl _)
      refine ⟨rfl, rfl, fun i hi => ?_, fun c hc => ?_, fun i hi => ?_, fun i h0 hi => ?_⟩
      · show zup qu f t i = zup qu' f t i
        have hi : i < f + 1 := hi
        by_cases e : i = f
        · rw [e, zup_s, zup_s]
        · rw [zup_n e, zup_n e]; exact r3 i (by omega)
      · show zup fc t _ c = zup fc' t _ c ∧ zup fc t _ c < 64
        by_cases e : c = t
        · subst e
          rw [zup_s, zup_s]
          by_cases h0 : nx = 0
          · simp only [if_pos h0]; exact ⟨trivial, ht⟩
          · simp only [if_neg h0]; exact r4 _ (r6 nx (by omega) hn)
        · rw [zup_n e, zup_n e]
          have hc : 0 < zGo (zup ln t _ c) := hc
          rw [zup_n e] at hc
          exact r4 c hc
      · show 0 ≤ zGo (zup ln t _ (zup qu f t i))
        have hi : i < f + 1 := hi
        by_cases e : i = f
        · rw [e, zup_s, zup_s]; omega
        · rw [zup_n e]
          rcases e1 (qu i) with h | h
          · exact Int.le_trans (r5 i (by omega)) h
          · rw [h, zup_s]; omega
      · show 0 < zGo (zup ln t _ (zup qu f t i))
        have hi : i < f + 1 := hi
        by_cases e : i = f
        · rw [e, zup_s, zup_s]; omega
        · rw [zup_n e]
          rcases e1 (qu i) with h | h
          · exact Int.lt_of_lt_of_le (r6 i h0 (by omega)) h
          · rw [h, zup_s]; omega
    · rw [if_neg h3, if_neg h3]; exact R0
theorem bIn_R {op : Nat → Bool} {nx : Nat} : ∀ {n d : Nat} {s s' : zBs}, bInv s → bR s s' → nx < s.2.2.2 → bInv (bIn op nx n d s) ∧ bR (bIn op nx n d s) (bIn op nx n d s')
  | 0, _, _, _, h, r, _ => ⟨h, r⟩
  | n + 1, d, s, s', h, r, hn => by
    obtain ⟨a, b, -⟩ := bStep_inv (op := op) (d := d) h hn
    exact bIn_R (n := n) (d := d + 1) a (bStep_R h r hn) (by omega)
theorem bOut_R {op : Nat → Bool} : ∀ {n nx : Nat} {s s' : zBs}, bInv s → bR s s' → bR (bOut op n nx s) (bOut op n nx s')
  | 0, _, _, _, _, r => r
  | n + 1, nx, s, s', h, r => by
    unfold bOut
    by_cases hn : nx < s.2.2.2
    · rw [if_pos hn, if_pos (by rw [← r.2.1]; exact hn)]
      obtain ⟨a, b⟩ := bIn_R (n := 4) (d := 0) h r hn
      exact bOut_R a b
    · rw [if_neg hn, if_neg (by rw [← r.2.1]; exact hn)]
      exact r
theorem f_bfs_R {op : Nat → Bool} {s : Nat} (hs : s < 64) (fc qu fc' qu' : Nat → Nat) : bR (f_bfs op s fc qu) (f_bfs op s fc' qu') := by
  refine bOut_R ⟨(by omega : 1 ≤ 64), fun i hi => by have hi : i < 1 := hi; rw [show i = 0 by omega]; show zup qu 0 s 0 < 64; rw [zup_s]; exact hs, fun c => f_bg_b s c⟩ ⟨rfl, rfl, fun i hi => ?_, fun c hc => ?_, fun i hi => ?_, fun i h0 hi => ?_⟩
  · have hi : i < 1 := hi
    show zup qu 0 s i = zup qu' 0 s i
    rw [show i = 0 by omega, zup_s, zup_s]
  · have := (f_bg_b s c).2
    have hc : 0 < zGo (f_bg s c) := hc
    omega
  · have hi : i < 1 := hi
    show 0 ≤ zGo (f_bg s (zup qu 0 s i))
    rw [show i = 0 by omega, zup_s]
    unfold f_bg; rw [if_pos rfl]; decide
  · have hi : i < 1 := hi
    omega
/-- the lengths from s over the open cells -/
def f_ln (op : Nat → Bool) (s c : Nat) : Option Nat := (f_bfs op s (fun _ => 0) (fun _ => 0)).1 c
def f_nx (C : zCo) (t d c g : Nat) : Nat := f_nx0 C t d c g (fun _ => 0) (fun _ => 0)
theorem f_ln_eq {op : Nat → Bool} {s : Nat} (hs : s < 64) (fc qu : Nat → Nat) : (f_bfs op s fc qu).1 = f_ln op s := (f_bfs_R hs fc qu (fun _ => 0) (fun _ => 0)).1
theorem f_nx_eq {C : zCo} {t d c g : Nat} (hs : c < 64) (fc qu : Nat → Nat) : f_nx0 C t d c g fc qu = f_nx C t d c g := by
  have R := f_bfs_R (op := f_opF C t d) hs fc qu (fun _ => 0) (fun _ => 0)
  unfold f_nx f_nx0
  rw [← R.1]
  by_cases h : 0 < zGo ((f_bfs (f_opF C t d) c fc qu).1 g)
  · rw [if_pos h, if_pos h]; exact (R.2.2.2.1 g h).1
  · rw [if_neg h, if_neg h]
theorem f_nx_lt {C : zCo} {t d c g : Nat} (hs : c < 64) : f_nx C t d c g < 64 := by
  have R := f_bfs_R (op := f_opF C t d) hs (fun _ => 0) (fun _ => 0) (fun _ => 0) (fun _ => 0)
  unfold f_nx f_nx0
  split
  · rename_i h; exact (R.2.2.2.1 g h).2
  · exact hs
theorem f_ln_b {op : Nat → Bool} {s : Nat} (hs : s < 64) (c : Nat) : -1 ≤ zGo (f_ln op s c) ∧ zGo (f_ln op s c) < 64 := by
  have I := f_bfs_inv (op := op) hs (fc := fun _ => 0) (qu := fun _ => 0)
  have h1 := I.1
  have h2 := I.2.2 c
  unfold f_ln
  omega
