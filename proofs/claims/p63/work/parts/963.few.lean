/-! mathematics: the fewest lights that reach all that is reached -/
def xb (x : Int64) (c : Nat) : Bool := x.toBitVec.getLsbD c
theorem xb_0 {x : Int64} : x = 0 ↔ ∀ c, c < 64 → xb x c = false := by
  constructor
  · intro h c _
    rw [h]
    show BitVec.getLsbD (0 : BitVec 64) c = false
    exact BitVec.getLsbD_zero
  · intro h
    refine Int64.toBitVec_inj.mp (BitVec.eq_of_getLsbD_eq fun i hi => ?_)
    have := h i hi
    unfold xb at this
    rw [this]
    exact (BitVec.getLsbD_zero (w := 64) (i := i)).symm
theorem xb_ext {x y : Int64} (h : ∀ c, c < 64 → xb x c = xb y c) : x = y := Int64.toBitVec_inj.mp (BitVec.eq_of_getLsbD_eq fun i hi => h i hi)
theorem xb_and (x y : Int64) (c : Nat) : xb (x &&& y) c = (xb x c && xb y c) := by
  show BitVec.getLsbD (x.toBitVec &&& y.toBitVec) c = _
  rw [BitVec.getLsbD_and]
  rfl
theorem xb_not (x : Int64) {c : Nat} (hc : c < 64) : xb (x ^^^ -1) c = !xb x c := by
  show BitVec.getLsbD (x.toBitVec ^^^ (-1 : Int64).toBitVec) c = _
  rw [BitVec.getLsbD_xor]
  have : ∀ c, c < 64 → BitVec.getLsbD (-1 : Int64).toBitVec c = true := by decide +kernel
  rw [this c hc, Bool.xor_true]
  rfl
theorem xb_lN (p : Nat → Bool) {c : Nat} (hc : c < 64) : xb (lN (mv p 64)) c = p c := by
  show BitVec.getLsbD (BitVec.ofNat 64 (mv p 64)) c = p c
  rw [BitVec.getLsbD_ofNat, mv_bit]
  simp [hc]
theorem xb_rm (C : zCo) (l : zLt) {c : Nat} (hc : c < 64) : xb (f_rm C l) c = f_rch C l c := by
  unfold f_rm
  rw [mk_mv _ 64 (Nat.le_refl _)]
  exact xb_lN _ hc
/-- the lowest of a mask's cells -/
theorem xb_low {x : Int64} (hx : x ≠ 0) : ∃ c, c < 64 ∧ xb x c = true ∧ xb (x &&& -x) c = true := by
  have h1 : ∃ c, c < 64 ∧ xb x c = true := Classical.byContradiction fun h => hx (xb_0.mpr fun c hc => by
    cases e : xb x c with
    | false => rfl
    | true => exact absurd ⟨c, hc, e⟩ h)
  have key : ∀ n c, c < n → c < 64 → xb x c = true → ∃ c, c < 64 ∧ xb x c = true ∧ ∀ j, j < c → xb x j = false := by
    intro n
    induction n with
    | zero => intro c hc; exact absurd hc (Nat.not_lt_zero c)
    | succ n ih =>
      intro c hc h64 hb
      by_cases q : ∃ j, j < c ∧ xb x j = true
      · obtain ⟨j, hj, hb2⟩ := q
        exact ih j (by omega) (by omega) hb2
      · exact ⟨c, h64, hb, fun j hj => by
          cases e : xb x j with
          | false => rfl
          | true => exact absurd ⟨j, hj, e⟩ q⟩
  obtain ⟨c0, h64, hb0⟩ := h1
  obtain ⟨c, hc, hb, hlo⟩ := key 64 c0 h64 h64 hb0
  refine ⟨c, hc, hb, ?_⟩
  rw [xb_and, hb, Bool.true_and]
  show BitVec.getLsbD (-x.toBitVec) c = true
  have hn : ¬ ∃ j, j < c ∧ x.toBitVec.getLsbD j = true := fun ⟨j, hj, e⟩ => by
    have := hlo j hj
    unfold xb at this
    rw [this] at e
    cases e
  have hb' : x.toBitVec.getLsbD c = true := hb
  rw [BitVec.getLsbD_neg, hb', decide_eq_false hn]
  simp
/-- at most k of the first N lights reach all cells of M -/
def cvr (C : zCo) (N : Nat) (M : Nat → Bool) (k : Nat) : Prop := ∃ f : Nat → Bool, zcnt f N ≤ k ∧ ∀ c, c < 64 → M c = true → ∃ i, i < N ∧ f i = true ∧ f_rch C (C.2.1 i) c = true
theorem zcnt_up {f : Nat → Bool} {i N : Nat} (hi : i < N) : zcnt (zup f i true) N ≤ zcnt f N + 1 := by
  by_cases e : f i = true
  · have : zup f i true = f := by
      funext j
      by_cases q : j = i
      · rw [q, zup_s, e]
      · rw [zup_n q]
    rw [this]
    omega
  · rw [Bool.not_eq_true] at e
    rw [zcnt_flip (p := zup f i true) (q := f) (r := i) (zup_s _ _ _) e (fun x hx => zup_n hx) hi]
    exact Nat.le_refl _
theorem zcnt_dn {f : Nat → Bool} {i N : Nat} (hi : i < N) (e : f i = true) : zcnt f N = zcnt (zup f i false) N + 1 := zcnt_flip e (zup_s _ _ _) (fun x hx => (zup_n hx).symm) hi
section
variable {C : zCo} {N : Nat}
theorem ftL_le {rec : Int64 → Nat} {miss : Int64} {x : Nat} : ∀ {n i b : Nat}, f_ftL C N rec miss n i b ≤ x ↔ b ≤ x ∨ ∃ j, i ≤ j ∧ j < i + n ∧ ¬ f_rm C (C.2.1 j) &&& (miss &&& -miss) = 0 ∧ rec (miss &&& (f_rm C (C.2.1 j) ^^^ -1)) ≤ x
  | 0, i, b => by
    show b ≤ x ↔ _
    constructor
    · exact Or.inl
    · rintro (h | ⟨j, h1, h2, -⟩)
      · exact h
      · omega
  | n + 1, i, b => by
    have eq : f_ftL C N rec miss (n + 1) i b = f_ftL C N rec miss n (i + 1) (if f_rm C (C.2.1 i) &&& (miss &&& -miss) = 0 then b else if rec (miss &&& (f_rm C (C.2.1 i) ^^^ -1)) < b then rec (miss &&& (f_rm C (C.2.1 i) ^^^ -1)) else b) := rfl
    rw [eq, ftL_le]
    have hb : (if f_rm C (C.2.1 i) &&& (miss &&& -miss) = 0 then b else if rec (miss &&& (f_rm C (C.2.1 i) ^^^ -1)) < b then rec (miss &&& (f_rm C (C.2.1 i) ^^^ -1)) else b) ≤ x ↔ b ≤ x ∨ (¬ f_rm C (C.2.1 i) &&& (miss &&& -miss) = 0 ∧ rec (miss &&& (f_rm C (C.2.1 i) ^^^ -1)) ≤ x) := by
      by_cases q : f_rm C (C.2.1 i) &&& (miss &&& -miss) = 0
      · rw [if_pos q]
        exact ⟨Or.inl, fun h => h.elim id (fun h => absurd q h.1)⟩
      · rw [if_neg q]
        by_cases q2 : rec (miss &&& (f_rm C (C.2.1 i) ^^^ -1)) < b
        · rw [if_pos q2]
          exact ⟨fun h => Or.inr ⟨q, h⟩, fun h => h.elim (fun h => by omega) (fun h => h.2)⟩
        · rw [if_neg q2]
          exact ⟨Or.inl, fun h => h.elim id (fun h => by omega)⟩
    rw [hb]
    constructor
    · rintro ((h | ⟨h1, h2⟩) | ⟨j, h1, h2, h3⟩)
      · exact Or.inl h
      · exact Or.inr ⟨i, Nat.le_refl i, by omega, h1, h2⟩
      · exact Or.inr ⟨j, by omega, by omega, h3⟩
    · rintro (h | ⟨j, h1, h2, h3⟩)
      · exact Or.inl (Or.inl h)
      · by_cases e : j = i
        · subst e
          exact Or.inl (Or.inr h3)
        · exact Or.inr ⟨j, by omega, by omega, h3⟩
theorem ft_spec : ∀ (q : Nat) (miss : Int64), q ≤ N → N - q ≤ f_ft C N q miss ∧ f_ft C N q miss ≤ N ∧ ∀ k, k < q → (cvr C N (xb miss) k ↔ f_ft C N q miss ≤ N - q + k)
  | 0, miss, _ => ⟨Nat.sub_le _ _, Nat.le_refl _, fun k hk => absurd hk (Nat.not_lt_zero k)⟩
  | q + 1, miss, hq => by
    have eq : f_ft C N (q + 1) miss = if miss = 0 then N - (q + 1) else f_ftL C N (f_ft C N q) miss N 0 N := rfl
    rw [eq]
    by_cases hm : miss = 0
    · rw [if_pos hm]
      refine ⟨Nat.le_refl _, Nat.sub_le _ _, fun k hk => ⟨fun _ => Nat.le_add_right _ _, fun _ => ⟨fun _ => false, ?_, fun c hc h => ?_⟩⟩⟩
      · have : ∀ n, zcnt (fun _ => false) n = 0 := fun n => by
          induction n with
          | zero => rfl
          | succ n ih => rw [zcnt_f rfl, ih]
        rw [this]
        exact Nat.zero_le _
      · rw [xb_0.mp hm c hc] at h
        cases h
    · rw [if_neg hm]
      have ih := fun m => ft_spec q m (by omega)
      have hlow : N - q ≤ f_ftL C N (f_ft C N q) miss N 0 N := by
        rcases (ftL_le (C := C) (N := N) (rec := f_ft C N q) (miss := miss) (x := f_ftL C N (f_ft C N q) miss N 0 N)).mp (Nat.le_refl _) with h | ⟨j, -, -, -, h⟩
        · omega
        · exact Nat.le_trans (ih _).1 h
      have hup : f_ftL C N (f_ft C N q) miss N 0 N ≤ N := f_ftL_le _ _ _ (Nat.le_refl N)
      refine ⟨by omega, hup, fun k hk => ?_⟩
      obtain ⟨c0, hc0, hb0, hb1⟩ := xb_low hm
      rcases k with _ | j
      · constructor
        · rintro ⟨f, hf, hcv⟩
          obtain ⟨i, hi, hfi, -⟩ := hcv c0 hc0 hb0
          have := zcnt_dn hi hfi
          omega
        · intro h
          omega
      · constructor
        · rintro ⟨f, hf, hcv⟩
          obtain ⟨i, hi, hfi, hri⟩ := hcv c0 hc0 hb0
          have hz := zcnt_dn hi hfi
          refine ftL_le.mpr (Or.inr ⟨i, Nat.zero_le i, by omega, fun h0 => ?_, ?_⟩)
          · have := xb_0.mp h0 c0 hc0
            rw [xb_and, xb_rm C _ hc0, hri, hb1] at this
            cases this
          · have h9 := ((ih (miss &&& (f_rm C (C.2.1 i) ^^^ -1))).2.2 j (by omega)).mp ⟨zup f i false, by omega, fun c hc h => ?_⟩
            · omega
            · rw [xb_and, xb_not _ hc, xb_rm C _ hc] at h
              obtain ⟨h1, h2⟩ := Bool.and_eq_true_iff.mp h
              obtain ⟨i2, hi2, hf2, hr2⟩ := hcv c hc h1
              refine ⟨i2, hi2, ?_, hr2⟩
              rw [zup_n (fun e => by rw [e] at hr2; rw [hr2] at h2; cases h2)]
              exact hf2
        · intro h
          rcases ftL_le.mp h with h | ⟨i, -, hi, -, hr⟩
          · omega
          · obtain ⟨f, hf, hcv⟩ := ((ih (miss &&& (f_rm C (C.2.1 i) ^^^ -1))).2.2 j (by omega)).mpr (by omega)
            have hi : i < N := by omega
            refine ⟨zup f i true, Nat.le_trans (zcnt_up hi) (by omega), fun c hc hb => ?_⟩
            by_cases hri : f_rch C (C.2.1 i) c = true
            · exact ⟨i, hi, zup_s _ _ _, hri⟩
            · obtain ⟨i2, hi2, hf2, hr2⟩ := hcv c hc (by rw [xb_and, xb_not _ hc, xb_rm C _ hc, hb, Bool.eq_false_iff.mpr hri]; rfl)
              exact ⟨i2, hi2, by rw [zup_n (fun e => hri (by rw [← e]; exact hr2))]; exact hf2, hr2⟩
theorem zany_iff {p : Nat → Bool} : ∀ {n : Nat}, zany p n = true ↔ ∃ i, i < n ∧ p i = true
  | 0 => ⟨(fun h => by cases h), fun ⟨i, hi, _⟩ => absurd hi (Nat.not_lt_zero i)⟩
  | n + 1 => by
    show (zany p n || p n) = true ↔ _
    rw [Bool.or_eq_true, zany_iff]
    constructor
    · rintro (⟨i, hi, h⟩ | h)
      · exact ⟨i, by omega, h⟩
      · exact ⟨n, Nat.lt_succ_self n, h⟩
    · rintro ⟨i, hi, h⟩
      by_cases e : i = n
      · exact Or.inr (by rw [← e]; exact h)
      · exact Or.inl ⟨i, by omega, h⟩
theorem mSet_mv (t : Nat) : ∀ n, mSet C t n = lN (mv (fun c => zany (fun i => t.testBit i && f_rch C (C.2.1 i) c) n) 64)
  | 0 => by
    show (0 : Int64) = lN (mv (fun _ => false) 64)
    rw [mv_no]
    rfl
  | n + 1 => by
    show (if t.testBit n then mSet C t n ||| f_rm C (C.2.1 n) else mSet C t n) = _
    rw [mSet_mv t n]
    cases hb : t.testBit n with
    | true =>
      rw [if_pos rfl]
      unfold f_rm
      rw [mk_mv _ 64 (Nat.le_refl _), mv_orL]
      congr 2
      funext c
      show _ = (zany _ n || (t.testBit n && f_rch C (C.2.1 n) c))
      rw [hb, Bool.true_and]
    | false =>
      rw [if_neg (by decide)]
      congr 2
      funext c
      show _ = (zany _ n || (t.testBit n && f_rch C (C.2.1 n) c))
      rw [hb, Bool.false_and, Bool.or_false]
theorem fwS_le {x : Nat} : ∀ {n s b : Nat}, f_fwS C n s b ≤ x ↔ b ≤ x ∨ ∃ t, s ≤ t ∧ t < s + n ∧ mSet C t C.2.2.2.1.1 = mAll C C.2.2.2.1.1 ∧ pcn t ≤ x
  | 0, s, b => by
    show b ≤ x ↔ _
    constructor
    · exact Or.inl
    · rintro (h | ⟨j, h1, h2, -⟩)
      · exact h
      · omega
  | n + 1, s, b => by
    have eq : f_fwS C (n + 1) s b = f_fwS C n (s + 1) (if pcn s < b ∧ mSet C s C.2.2.2.1.1 = mAll C C.2.2.2.1.1 then pcn s else b) := rfl
    rw [eq, fwS_le]
    have hb : (if pcn s < b ∧ mSet C s C.2.2.2.1.1 = mAll C C.2.2.2.1.1 then pcn s else b) ≤ x ↔ b ≤ x ∨ (mSet C s C.2.2.2.1.1 = mAll C C.2.2.2.1.1 ∧ pcn s ≤ x) := by
      by_cases q : pcn s < b ∧ mSet C s C.2.2.2.1.1 = mAll C C.2.2.2.1.1
      · rw [if_pos q]
        exact ⟨fun h => Or.inr ⟨q.2, h⟩, fun h => h.elim (fun h => by omega) (fun h => h.2)⟩
      · rw [if_neg q]
        exact ⟨Or.inl, fun h => h.elim id (fun h => Nat.le_trans (Nat.le_of_not_lt fun h2 => q ⟨h2, h.1⟩) h.2)⟩
    rw [hb]
    constructor
    · rintro ((h | ⟨h1, h2⟩) | ⟨j, h1, h2, h3⟩)
      · exact Or.inl h
      · exact Or.inr ⟨s, Nat.le_refl s, by omega, h1, h2⟩
      · exact Or.inr ⟨j, by omega, by omega, h3⟩
    · rintro (h | ⟨j, h1, h2, h3⟩)
      · exact Or.inl (Or.inl h)
      · by_cases e : j = s
        · subst e
          exact Or.inl (Or.inr h3)
        · exact Or.inr ⟨j, by omega, by omega, h3⟩
end
theorem zcnt_len {p : Nat → Bool} (n : Nat) : ∀ m, zcnt p n ≤ zcnt p (n + m)
  | 0 => Nat.le_refl _
  | m + 1 => Nat.le_trans (zcnt_len n m) (by show zcnt p (n + m) ≤ zcnt p (n + m) + _; exact Nat.le_add_right _ _)
theorem zcnt_cut {p : Nat → Bool} {n : Nat} (h : ∀ i, n ≤ i → p i = false) : ∀ m, zcnt p (n + m) = zcnt p n
  | 0 => rfl
  | m + 1 => by
    show zcnt p (n + m + 1) = _
    rw [zcnt_f (h (n + m) (by omega)), zcnt_cut h m]
theorem cvr_set {C : zCo} (h6 : C.2.2.2.1.1 ≤ 6) (k : Nat) : cvr C C.2.2.2.1.1 (xb (mAll C C.2.2.2.1.1)) k ↔ ∃ t, 0 ≤ t ∧ t < 0 + 2 ^ C.2.2.2.1.1 ∧ mSet C t C.2.2.2.1.1 = mAll C C.2.2.2.1.1 ∧ pcn t ≤ k := by
  have hall : ∀ c, c < 64 → xb (mAll C C.2.2.2.1.1) c = f_any C C.2.2.2.1.1 c := fun c hc => by rw [mAll_mv]; exact xb_lN _ hc
  have hset : ∀ t c, c < 64 → xb (mSet C t C.2.2.2.1.1) c = zany (fun i => t.testBit i && f_rch C (C.2.1 i) c) C.2.2.2.1.1 := fun t c hc => by rw [mSet_mv]; exact xb_lN _ hc
  generalize hN : C.2.2.2.1.1 = N at *
  constructor
  · rintro ⟨f, hf, hcv⟩
    have hbit : ∀ i, i < N → (mv f N).testBit i = f i := fun i hi => by rw [mv_bit]; simp [hi]
    refine ⟨mv f N, Nat.zero_le _, by rw [Nat.zero_add]; exact mv_lt f N, xb_ext fun c hc => ?_, ?_⟩
    · rw [hset _ c hc, hall c hc]
      apply Bool.eq_iff_iff.mpr
      unfold f_any
      rw [zany_iff, zany_iff]
      constructor
      · rintro ⟨i, hi, h⟩
        exact ⟨i, hi, (Bool.and_eq_true_iff.mp h).2⟩
      · rintro ⟨i, hi, h⟩
        obtain ⟨j, hj, hfj, hrj⟩ := hcv c hc (by rw [hall c hc]; unfold f_any; exact zany_iff.mpr ⟨i, hi, h⟩)
        exact ⟨j, hj, by rw [hbit j hj, hfj, hrj]; rfl⟩
    · have e : pcn (mv f N) = zcnt (fun i => (mv f N).testBit i) N := by
        unfold pcn
        rw [show 6 = N + (6 - N) by omega]
        exact zcnt_cut (fun i hi => by rw [mv_bit]; simp; omega) _
      rw [e, zcnt_eqn (q := f) N (fun i hi => hbit i hi)]
      exact hf
  · rintro ⟨t, -, -, ht, hp⟩
    refine ⟨fun i => t.testBit i, Nat.le_trans ?_ hp, fun c hc h => ?_⟩
    · unfold pcn
      rw [show (6 : Nat) = N + (6 - N) by omega]
      exact zcnt_len _ _
    · rw [← ht, hset t c hc] at h
      obtain ⟨i, hi, h⟩ := zany_iff.mp h
      obtain ⟨h1, h2⟩ := Bool.and_eq_true_iff.mp h
      exact ⟨i, hi, h1, h2⟩
theorem hFew_of {K : Nat} {C : zCo} (hO : zOk K C) : hFew C := by
  have h6 := hO.2.2.2.1
  have cs := cvr_set h6
  have sp := ft_spec (C := C) (N := C.2.2.2.1.1) C.2.2.2.1.1 (mAll C C.2.2.2.1.1) (Nat.le_refl _)
  have hw : ∀ x, f_fw C ≤ x ↔ C.2.2.2.1.1 ≤ x ∨ cvr C C.2.2.2.1.1 (xb (mAll C C.2.2.2.1.1)) x := fun x => by
    rw [cs x]
    exact fwS_le
  have hwN : f_fw C ≤ C.2.2.2.1.1 := (hw _).mpr (Or.inl (Nat.le_refl _))
  have hall : ∀ c, c < 64 → xb (mAll C C.2.2.2.1.1) c = f_any C C.2.2.2.1.1 c := fun c hc => by rw [mAll_mv]; exact xb_lN _ hc
  refine ⟨?_, hwN, ?_⟩
  · obtain ⟨-, s2, s3⟩ := sp
    have h1 : ∀ k, k < C.2.2.2.1.1 → (f_fw C ≤ k ↔ f_ft C C.2.2.2.1.1 C.2.2.2.1.1 (mAll C C.2.2.2.1.1) ≤ k) := fun k hk => by
      rw [hw k]
      have := s3 k hk
      rw [show C.2.2.2.1.1 - C.2.2.2.1.1 + k = k by omega] at this
      rw [← this]
      exact ⟨fun h => h.resolve_left (by omega), Or.inr⟩
    refine Nat.le_antisymm ?_ ?_
    · by_cases q : f_fw C < C.2.2.2.1.1
      · exact (h1 _ q).mp (Nat.le_refl _)
      · omega
    · by_cases q : f_ft C C.2.2.2.1.1 C.2.2.2.1.1 (mAll C C.2.2.2.1.1) < C.2.2.2.1.1
      · exact (h1 _ q).mpr (Nat.le_refl _)
      · omega
  · have hz : ∀ p : Nat → Bool, ∀ n, 0 < zcnt p n ↔ ∃ i, i < n ∧ p i = true := fun p n => by
      constructor
      · intro h
        refine Classical.byContradiction fun q => ?_
        have : zcnt p n = 0 := by
          have e : zcnt p n = zcnt (fun _ => false) n := zcnt_eqn n (fun x hx => by
            cases e : p x with
            | false => rfl
            | true => exact absurd ⟨x, hx, e⟩ q)
          rw [e]
          have : ∀ n, zcnt (fun _ => false) n = 0 := fun n => by
            induction n with
            | zero => rfl
            | succ n ih => rw [zcnt_f rfl, ih]
          exact this n
        omega
      · rintro ⟨i, hi, h⟩
        have := zcnt_dn hi h
        omega
    rw [hz]
    constructor
    · intro h
      refine Classical.byContradiction fun q => ?_
      have : f_fw C ≤ 0 := (hw 0).mpr (Or.inr ⟨fun _ => false, ?_, fun c hc hb => ?_⟩)
      · omega
      · have : ∀ n, zcnt (fun _ => false) n = 0 := fun n => by
          induction n with
          | zero => rfl
          | succ n ih => rw [zcnt_f rfl, ih]
        rw [this]
        exact Nat.le_refl _
      · rw [hall c hc] at hb
        exact absurd ⟨c, hc, hb⟩ q
    · rintro ⟨c, hc, h⟩
      refine Nat.pos_of_ne_zero fun e => ?_
      have h0 := (hw 0).mp (by omega)
      have h1 : f_any C C.2.2.2.1.1 c = true := h
      unfold f_any at h1
      obtain ⟨i, hi, -⟩ := zany_iff.mp h1
      rcases h0 with h0 | ⟨f, hf, hcv⟩
      · omega
      · obtain ⟨j, hj, hfj, -⟩ := hcv c hc (by rw [hall c hc]; exact h)
        have := zcnt_dn hj hfj
        omega
