/-! mathematics: the lengths found in rounds are those of the search -/
theorem zNb_sym {c d t : Nat} (hc : c < 64) (hd : d < 4) (h : zNb c d = some t) : ∃ e, e < 4 ∧ zNb t e = some c := by
  have key : ∀ d, d < 4 → ∀ c, c < 64 → ∀ t, zNb c d = some t → zNb t ((d + 2) % 4) = some c := by
    intro d hd c hc t h
    rcases (show d = 0 ∨ d = 1 ∨ d = 2 ∨ d = 3 by omega) with rfl | rfl | rfl | rfl <;> simp only [zNb] at h ⊢ <;> split at h <;> simp at h <;> subst h <;> simp <;> omega
  exact ⟨(d + 2) % 4, by omega, key d hd c hc t h⟩
def lnle (L L' : Nat → Option Nat) : Prop := ∀ x k, L x = some k → ∃ k', k' ≤ k ∧ L' x = some k'
theorem lnle.rf (L : Nat → Option Nat) : lnle L L := fun _ k h => ⟨k, Nat.le_refl _, h⟩
theorem lnle.tr {A B C : Nat → Option Nat} (h1 : lnle A B) (h2 : lnle B C) : lnle A C := fun x k h => by
  obtain ⟨k1, a, b⟩ := h1 x k h
  obtain ⟨k2, a2, b2⟩ := h2 x k1 b
  exact ⟨k2, by omega, b2⟩
/-- one step: lower, sound, minded, and unchanged where nothing is improved -/
theorem iStep_all {op : Nat → Bool} {s c d : Nat} {S : (Nat → Option Nat) × Bool} (hc : c < 64) (hd : d < 4) (ho : op c = true) (hS : ∀ x k, S.1 x = some k → wk op s k x) : lnle S.1 (iStep c d S).1 ∧ (∀ x k, (iStep c d S).1 x = some k → wk op s k x) ∧ (∀ t k, zNb c d = some t → S.1 t = some k → ∃ m, m ≤ k + 1 ∧ (iStep c d S).1 c = some m) ∧ ((iStep c d S).2 = false → iStep c d S = S) := by
  unfold iStep
  cases hz : zNb c d with
  | none => exact ⟨lnle.rf _, hS, (fun t k h => by cases h), fun _ => rfl⟩
  | some t =>
    dsimp only
    cases ht : S.1 t with
    | none => exact ⟨lnle.rf _, hS, (fun t' k h hk => by cases h; rw [ht] at hk; cases hk), fun _ => rfl⟩
    | some k =>
      obtain ⟨e, he, hze⟩ := zNb_sym hc hd hz
      have hw : wk op s (k + 1) c := ⟨ho, t, e, he, hS t k ht, hze⟩
      have upd : ∀ (hlow : ∀ q, S.1 c = some q → k + 1 ≤ q), lnle S.1 (zup S.1 c (some (k + 1))) ∧ (∀ x q, zup S.1 c (some (k + 1)) x = some q → wk op s q x) := fun hlow => ⟨fun x q hq => by
        by_cases ex : x = c
        · rw [ex] at hq ⊢; exact ⟨k + 1, hlow q hq, zup_s _ _ _⟩
        · exact ⟨q, Nat.le_refl _, by rw [zup_n ex]; exact hq⟩, fun x q hq => by
        by_cases ex : x = c
        · rw [ex, zup_s] at hq; cases hq; rw [ex]; exact hw
        · rw [zup_n ex] at hq; exact hS x q hq⟩
      dsimp only
      cases hcc : S.1 c with
      | none =>
        obtain ⟨u1, u2⟩ := upd (fun q hq => by rw [hcc] at hq; cases hq)
        exact ⟨u1, u2, fun t' k' h hk => by cases h; rw [ht] at hk; cases hk; exact ⟨k + 1, Nat.le_refl _, zup_s _ _ _⟩, fun h => by cases h⟩
      | some m =>
        dsimp only
        by_cases hlt : k + 1 < m
        · rw [if_pos hlt]
          obtain ⟨u1, u2⟩ := upd (fun q hq => by rw [hcc] at hq; cases hq; omega)
          exact ⟨u1, u2, fun t' k' h hk => by cases h; rw [ht] at hk; cases hk; exact ⟨k + 1, Nat.le_refl _, zup_s _ _ _⟩, fun h => by cases h⟩
        · rw [if_neg hlt]
          exact ⟨lnle.rf _, hS, fun t' k' h hk => by cases h; rw [ht] at hk; cases hk; exact ⟨m, by omega, hcc⟩, fun _ => rfl⟩
theorem iIn_all {op : Nat → Bool} {s c : Nat} (hc : c < 64) (ho : op c = true) : ∀ {n d : Nat} {S : (Nat → Option Nat) × Bool}, n + d = 4 → (∀ x k, S.1 x = some k → wk op s k x) → lnle S.1 (iIn c n d S).1 ∧ (∀ x k, (iIn c n d S).1 x = some k → wk op s k x) ∧ (∀ e t k, d ≤ e → e < 4 → zNb c e = some t → S.1 t = some k → ∃ m, m ≤ k + 1 ∧ (iIn c n d S).1 c = some m) ∧ ((iIn c n d S).2 = false → iIn c n d S = S)
  | 0, d, S, hn, hS => ⟨lnle.rf _, hS, fun e t k h1 h2 => absurd h1 (by omega), fun _ => rfl⟩
  | n + 1, d, S, hn, hS => by
    obtain ⟨a1, a2, a3, a4⟩ := iStep_all hc (by omega : d < 4) ho hS
    obtain ⟨b1, b2, b3, b4⟩ := iIn_all hc ho (n := n) (d := d + 1) (S := iStep c d S) (by omega) a2
    refine ⟨a1.tr b1, b2, fun e t k h1 h2 h3 h4 => ?_, fun h => ?_⟩
    · by_cases q : e = d
      · subst q
        obtain ⟨m, hm, hm2⟩ := a3 t k h3 h4
        obtain ⟨m2, hm3, hm4⟩ := b1 c m hm2
        exact ⟨m2, by omega, hm4⟩
      · obtain ⟨k', hk', hk2⟩ := a1 t k h4
        obtain ⟨m, hm, hm2⟩ := b3 e t k' (by omega) h2 h3 hk2
        exact ⟨m, by omega, hm2⟩
    · have h : (iIn c n (d + 1) (iStep c d S)).2 = false := h
      have e1 := b4 h
      rw [e1] at h
      show iIn c n (d + 1) (iStep c d S) = S
      rw [e1]
      exact a4 h
theorem iAll_all {op : Nat → Bool} {s : Nat} : ∀ {n c : Nat} {S : (Nat → Option Nat) × Bool}, n + c = 64 → (∀ x k, S.1 x = some k → wk op s k x) → lnle S.1 (iAll op n c S).1 ∧ (∀ x k, (iAll op n c S).1 x = some k → wk op s k x) ∧ (∀ x e t k, c ≤ x → x < 64 → op x = true → e < 4 → zNb x e = some t → S.1 t = some k → ∃ m, m ≤ k + 1 ∧ (iAll op n c S).1 x = some m) ∧ ((iAll op n c S).2 = false → iAll op n c S = S)
  | 0, c, S, hn, hS => ⟨lnle.rf _, hS, fun x e t k h1 h2 => absurd h1 (by omega), fun _ => rfl⟩
  | n + 1, c, S, hn, hS => by
    have st : iAll op (n + 1) c S = iAll op n (c + 1) (if op c then iIn c 4 0 S else S) := rfl
    rw [st]
    by_cases ho : op c = true
    · rw [if_pos ho]
      obtain ⟨a1, a2, a3, a4⟩ := iIn_all (by omega : c < 64) ho (n := 4) (d := 0) rfl hS
      obtain ⟨b1, b2, b3, b4⟩ := iAll_all (n := n) (c := c + 1) (S := iIn c 4 0 S) (by omega) a2
      refine ⟨a1.tr b1, b2, fun x e t k h1 h2 h3 h4 h5 h6 => ?_, fun h => ?_⟩
      · by_cases q : x = c
        · subst q
          obtain ⟨m, hm, hm2⟩ := a3 e t k (Nat.zero_le _) h4 h5 h6
          obtain ⟨m2, hm3, hm4⟩ := b1 x m hm2
          exact ⟨m2, by omega, hm4⟩
        · obtain ⟨k', hk', hk2⟩ := a1 t k h6
          obtain ⟨m, hm, hm2⟩ := b3 x e t k' (by omega) h2 h3 h4 h5 hk2
          exact ⟨m, by omega, hm2⟩
      · have e1 := b4 h
        rw [e1] at h ⊢
        exact a4 h
    · rw [if_neg ho]
      obtain ⟨b1, b2, b3, b4⟩ := iAll_all (n := n) (c := c + 1) (S := S) (by omega) hS
      refine ⟨b1, b2, fun x e t k h1 h2 h3 h4 h5 h6 => ?_, b4⟩
      have q : x ≠ c := fun q => ho (by rw [← q]; exact h3)
      exact b3 x e t k (by omega) h2 h3 h4 h5 h6
theorem wk_lt {op : Nat → Bool} {s : Nat} (hs : s < 64) : ∀ {n c : Nat}, wk op s n c → c < 64
  | 0, c, h => by have h : c = s := h; omega
  | n + 1, c, h => by
    obtain ⟨-, c', d, -, hw, hz⟩ := h
    exact zNb_lt (wk_lt hs hw) hz
def cUp (op : Nat → Bool) (s r : Nat) (L : Nat → Option Nat) : Prop := ∀ n c, n ≤ r → wk op s n c → ∃ m, m ≤ n ∧ L c = some m
theorem iRun_all {op : Nat → Bool} {s : Nat} (hs : s < 64) : ∀ {n r : Nat} {L : Nat → Option Nat}, n + r = 64 → (∀ x k, L x = some k → wk op s k x) → cUp op s r L → (∀ x k, iRun op n L x = some k → wk op s k x) ∧ cUp op s 64 (iRun op n L)
  | 0, r, L, hn, hS, hU => ⟨hS, fun n c h1 h2 => hU n c (by omega) h2⟩
  | n + 1, r, L, hn, hS, hU => by
    obtain ⟨b1, b2, b3, b4⟩ := iAll_all (op := op) (s := s) (n := 64) (c := 0) (S := (L, false)) rfl hS
    have prog : ∀ q : Nat, cUp op s q L → cUp op s (q + 1) (iAll op 64 0 (L, false)).1 := fun q hq n' c h1 h2 => by
      cases n' with
      | zero =>
        obtain ⟨m, hm, hm2⟩ := hq 0 c (Nat.zero_le _) h2
        obtain ⟨m2, hm3, hm4⟩ := b1 c m hm2
        exact ⟨m2, by omega, hm4⟩
      | succ n' =>
        have hc := wk_lt hs h2
        obtain ⟨ho, c', d, hd, hw, hz⟩ := h2
        obtain ⟨m, hm, hm2⟩ := hq n' c' (by omega) hw
        obtain ⟨e, he, hze⟩ := zNb_sym (wk_lt hs hw) hd hz
        obtain ⟨m2, hm3, hm4⟩ := b3 c e c' m (Nat.zero_le _) hc ho he hze hm2
        exact ⟨m2, by omega, hm4⟩
    unfold iRun
    split
    · exact iRun_all hs (n := n) (r := r + 1) (by omega) b2 (prog r hU)
    · rename_i h
      have e1 := b4 (by cases h9 : (iAll op 64 0 (L, false)).2 <;> simp_all)
      rw [e1] at b2 prog ⊢
      refine ⟨b2, ?_⟩
      have all : ∀ q, cUp op s (r + q) L := fun q => by
        induction q with
        | zero => exact hU
        | succ q ih => exact prog _ ih
      exact fun n' c h1 h2 => all 64 n' c (by omega) h2
/-- lengths in rounds are the lengths of the search -/
theorem iRun_eq {op : Nat → Bool} {s : Nat} (hs : s < 64) (c : Nat) : iRun op 64 (f_bg s) c = f_ln op s c := by
  obtain ⟨h1, h2⟩ := iRun_all (op := op) hs (n := 64) (r := 0) (L := f_bg s) rfl (fun x k h => by
    unfold f_bg at h
    split at h
    · rename_i e; cases h; exact e
    · cases h) (fun n x hn hw => by
    have : n = 0 := by omega
    subst this
    have hw : x = s := hw
    exact ⟨0, Nat.le_refl _, by rw [hw]; exact if_pos rfl⟩)
  cases e : f_ln op s c with
  | none =>
    cases e2 : iRun op 64 (f_bg s) c with
    | none => rfl
    | some k => exact absurd (h1 c k e2) ((f_ln_none hs).mp e k)
  | some m =>
    have hb := (f_ln_b (op := op) hs c).2
    rw [e] at hb
    have hb : (m : Int) < 64 := hb
    obtain ⟨m1, a1, a2⟩ := h2 m c (by omega) (f_ln_wk hs e)
    obtain ⟨m2, b1, b2⟩ := f_ln_of hs (h1 c m1 a2)
    rw [e] at b1
    cases b1
    rw [a2, show m1 = m by omega]
