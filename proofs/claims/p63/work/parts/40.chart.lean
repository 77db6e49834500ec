/-! the whole chart; what changes it -/
/-- the commands' cells and the text's signs -/
def zTx (t : Nat) (T : Nat → Nat) (len cn ps : Nat) (Kc : Nat → Nat × (Nat → Nat)) (h : zH) : Prop :=
  h[t]? = some (7, [.ref (t + 1), .ref (t + 2), .int (iI len), .int (iI cn), .int (iI ps)]) ∧ h[t + 1]? = some (103, zar 60 (fun i => .int (iI (T i)))) ∧ h[t + 2]? = some (108, zar 10 (fun i => .ref (t + 3 + 2 * i))) ∧ ∀ i, i < 10 → h[t + 3 + 2 * i]? = some (6, [.ref (1 + (Kc i).1), .ref (t + 4 + 2 * i)]) ∧ h[t + 4 + 2 * i]? = some (100, zar 4 (fun j => .int (iI ((Kc i).2 j)))) ∧ (Kc i).1 < 8
theorem zTx.same {t len cn ps : Nat} {T : Nat → Nat} {Kc : Nat → Nat × (Nat → Nat)} {h h' : zH} {P : Nat → Prop} (R : zTx t T len cn ps Kc h) (s : zSame P h h') (hP : ∀ a, t ≤ a → a < t + 23 → ¬ P a) : zTx t T len cn ps Kc h' := by
  obtain ⟨h1, h2, h3, h4⟩ := R
  exact ⟨s.get h1 (hP _ (by omega) (by omega)), s.get h2 (hP _ (by omega) (by omega)), s.get h3 (hP _ (by omega) (by omega)), fun i hi => ⟨s.get (h4 i hi).1 (hP _ (by omega) (by omega)), s.get (h4 i hi).2.1 (hP _ (by omega) (by omega)), (h4 i hi).2.2⟩⟩
/-- what stands beside the signs: how many commands, the place, each command's kind and values; kept in T, behind the signs -/
def zTk (T : Nat → Nat) : Nat → Nat × (Nat → Nat) := fun i => (T (62 + 5 * i), fun j => T (63 + 5 * i + j))
def zTt (t : Nat) (T : Nat → Nat) (len : Nat) (h : zH) : Prop := zTx t T len (T 60) (T 61) (zTk T) h
theorem zTt.same {t len : Nat} {T : Nat → Nat} {h h' : zH} {P : Nat → Prop} (R : zTt t T len h) (s : zSame P h h') (hP : ∀ a, t ≤ a → a < t + 23 → ¬ P a) : zTt t T len h' := zTx.same R s hP
/-- the output line: a builder whose bytes stand behind it -/
def zLn (a : Nat) (h : zH) : Prop := ∃ (v mb cnt m : Nat) (f : Nat → Int32), a + 1 ≤ v ∧ h[a]? = some (1, [.ref v, .int 0, .int (iI mb), .int (iI cnt)]) ∧ h[v]? = some (104, zar m (fun j => .int (f j))) ∧ cnt ≤ m ∧ 16 ≤ m ∧ m ≤ 65536
theorem zLn.same {a : Nat} {h h' : zH} {P : Nat → Prop} (R : zLn a h) (s : zSame P h h') (hP : ∀ q, a ≤ q → ¬ P q) : zLn a h' := by
  obtain ⟨v, mb, cnt, m, f, h1, h2, h3, h4⟩ := R
  exact ⟨v, mb, cnt, m, f, h1, s.get h2 (hP _ (Nat.le_refl _)), s.get h3 (hP _ (by omega)), h4⟩
def zGx (g : Nat) (h : zH) : Prop := ∃ p, pOk p ∧ zGp g p h
theorem zGx.same {g : Nat} {h h' : zH} {P : Nat → Prop} (R : zGx g h) (s : zSame P h h') (hP : ∀ a, g ≤ a → a < g + 2 → ¬ P a) : zGx g h' := by
  obtain ⟨p, a, R⟩ := R
  exact ⟨p, a, R.same s hP⟩
def zRc (r : Nat) (h : zH) : Prop := ∃ f : Nat → Int64, h[r]? = some (101, zar 6 (fun i => .long (f i)))
theorem zRc.same {r : Nat} {h h' : zH} {P : Nat → Prop} (R : zRc r h) (s : zSame P h h') (hP : ¬ P r) : zRc r h' := by
  obtain ⟨f, R⟩ := R
  exact ⟨f, s.get R hP⟩
/-- the chart at o is in the state S -/
def zRB (o : Nat) (S : zBt) (h : zH) : Prop :=
  zNR ≤ o ∧ h[o]? = some (12, zBf o S) ∧ zKo (o + 1) S.1 h ∧ zKo (o + 17) S.2.1.1 h ∧ zHi (o + 33) S.2.2.1.1 S.2.2.1.2.1 S.2.2.1.2.2 h ∧ zWx (o + 179) h ∧ zGx (o + 184) h ∧ zRc (o + 186) h ∧ zTt (o + 187) S.2.2.2.1.1 S.2.2.2.1.2 h ∧ zLn (o + 210) h
section
variable {o : Nat} {S : zBt} {h h' : zH}
theorem zRB.coast (R : zRB o S h) (s : zSame (zIn (o + 1) 16) h h') {C : zCo} (K : zKo (o + 1) C h') : zRB o (C, S.2) h' := by
  obtain ⟨z, r0, r1, r2, r3, r4, r5, r6, r7, r8⟩ := R
  exact ⟨z, s.get r0 (fun q => by have := q.1; have := q.2; omega), K, r2.same s (fun a g1 g2 q => by have := q.1; have := q.2; omega), r3.same s (fun a g1 g2 q => by have := q.1; have := q.2; omega), r4.same s (fun a g1 g2 q => by have := q.1; have := q.2; omega), r5.same s (fun a g1 g2 q => by have := q.1; have := q.2; omega), r6.same s (fun q => by have := q.1; have := q.2; omega), r7.same s (fun a g1 g2 q => by have := q.1; have := q.2; omega), r8.same s (fun a g1 q => by have := q.1; have := q.2; omega)⟩
theorem zRB.snap (R : zRB o S h) (s : zSame (zIn (o + 17) 16) h h') {C : zCo} (K : zKo (o + 17) C h') : zRB o (S.1, (C, S.2.1.2), S.2.2) h' := by
  obtain ⟨z, r0, r1, r2, r3, r4, r5, r6, r7, r8⟩ := R
  exact ⟨z, s.get r0 (fun q => by have := q.1; have := q.2; omega), r1.same s (fun a g1 g2 q => by have := q.1; have := q.2; omega), K, r3.same s (fun a g1 g2 q => by have := q.1; have := q.2; omega), r4.same s (fun a g1 g2 q => by have := q.1; have := q.2; omega), r5.same s (fun a g1 g2 q => by have := q.1; have := q.2; omega), r6.same s (fun q => by have := q.1; have := q.2; omega), r7.same s (fun a g1 g2 q => by have := q.1; have := q.2; omega), r8.same s (fun a g1 q => by have := q.1; have := q.2; omega)⟩
theorem zRB.hist (R : zRB o S h) (s : zSame (zIn (o + 35) 144) h h') {f c : Nat} {H : Nat → zCo} (K : zHi (o + 33) f c H h') : zRB o (S.1, S.2.1, (f, c, H), S.2.2.2) h' := by
  obtain ⟨z, r0, r1, r2, r3, r4, r5, r6, r7, r8⟩ := R
  exact ⟨z, s.get r0 (fun q => by have := q.1; have := q.2; omega), r1.same s (fun a g1 g2 q => by have := q.1; have := q.2; omega), r2.same s (fun a g1 g2 q => by have := q.1; have := q.2; omega), K, r4.same s (fun a g1 g2 q => by have := q.1; have := q.2; omega), r5.same s (fun a g1 g2 q => by have := q.1; have := q.2; omega), r6.same s (fun q => by have := q.1; have := q.2; omega), r7.same s (fun a g1 g2 q => by have := q.1; have := q.2; omega), r8.same s (fun a g1 q => by have := q.1; have := q.2; omega)⟩
theorem zRB.hist2 (R : zRB o S h) (s : zSame (zIn (o + 33) 2) h h') {f c : Nat} {H : Nat → zCo} (K : zHi (o + 33) f c H h') : zRB o (S.1, S.2.1, (f, c, H), S.2.2.2) h' := by
  obtain ⟨z, r0, r1, r2, r3, r4, r5, r6, r7, r8⟩ := R
  exact ⟨z, s.get r0 (fun q => by have := q.1; have := q.2; omega), r1.same s (fun a g1 g2 q => by have := q.1; have := q.2; omega), r2.same s (fun a g1 g2 q => by have := q.1; have := q.2; omega), K, r4.same s (fun a g1 g2 q => by have := q.1; have := q.2; omega), r5.same s (fun a g1 g2 q => by have := q.1; have := q.2; omega), r6.same s (fun q => by have := q.1; have := q.2; omega), r7.same s (fun a g1 g2 q => by have := q.1; have := q.2; omega), r8.same s (fun a g1 q => by have := q.1; have := q.2; omega)⟩
theorem zRB.ways (R : zRB o S h) (s : zSame (zIn (o + 179) 5) h h') (K : zWx (o + 179) h') : zRB o S h' := by
  obtain ⟨z, r0, r1, r2, r3, r4, r5, r6, r7, r8⟩ := R
  exact ⟨z, s.get r0 (fun q => by have := q.1; have := q.2; omega), r1.same s (fun a g1 g2 q => by have := q.1; have := q.2; omega), r2.same s (fun a g1 g2 q => by have := q.1; have := q.2; omega), r3.same s (fun a g1 g2 q => by have := q.1; have := q.2; omega), K, r5.same s (fun a g1 g2 q => by have := q.1; have := q.2; omega), r6.same s (fun q => by have := q.1; have := q.2; omega), r7.same s (fun a g1 g2 q => by have := q.1; have := q.2; omega), r8.same s (fun a g1 q => by have := q.1; have := q.2; omega)⟩
theorem zRB.grp (R : zRB o S h) (s : zSame (zIn (o + 184) 2) h h') (K : zGx (o + 184) h') : zRB o S h' := by
  obtain ⟨z, r0, r1, r2, r3, r4, r5, r6, r7, r8⟩ := R
  exact ⟨z, s.get r0 (fun q => by have := q.1; have := q.2; omega), r1.same s (fun a g1 g2 q => by have := q.1; have := q.2; omega), r2.same s (fun a g1 g2 q => by have := q.1; have := q.2; omega), r3.same s (fun a g1 g2 q => by have := q.1; have := q.2; omega), r4.same s (fun a g1 g2 q => by have := q.1; have := q.2; omega), K, r6.same s (fun q => by have := q.1; have := q.2; omega), r7.same s (fun a g1 g2 q => by have := q.1; have := q.2; omega), r8.same s (fun a g1 q => by have := q.1; have := q.2; omega)⟩
theorem zRB.rch (R : zRB o S h) (s : zSame (zIn (o + 186) 1) h h') (K : zRc (o + 186) h') : zRB o S h' := by
  obtain ⟨z, r0, r1, r2, r3, r4, r5, r6, r7, r8⟩ := R
  exact ⟨z, s.get r0 (fun q => by have := q.1; have := q.2; omega), r1.same s (fun a g1 g2 q => by have := q.1; have := q.2; omega), r2.same s (fun a g1 g2 q => by have := q.1; have := q.2; omega), r3.same s (fun a g1 g2 q => by have := q.1; have := q.2; omega), r4.same s (fun a g1 g2 q => by have := q.1; have := q.2; omega), r5.same s (fun a g1 g2 q => by have := q.1; have := q.2; omega), K, r7.same s (fun a g1 g2 q => by have := q.1; have := q.2; omega), r8.same s (fun a g1 q => by have := q.1; have := q.2; omega)⟩
theorem zRB.txt (R : zRB o S h) (s : zSame (zIn (o + 187) 23) h h') {T : Nat → Nat} {n : Nat} (K : zTt (o + 187) T n h') : zRB o (S.1, S.2.1, S.2.2.1, (T, n), S.2.2.2.2) h' := by
  obtain ⟨z, r0, r1, r2, r3, r4, r5, r6, r7, r8⟩ := R
  exact ⟨z, s.get r0 (fun q => by have := q.1; have := q.2; omega), r1.same s (fun a g1 g2 q => by have := q.1; have := q.2; omega), r2.same s (fun a g1 g2 q => by have := q.1; have := q.2; omega), r3.same s (fun a g1 g2 q => by have := q.1; have := q.2; omega), r4.same s (fun a g1 g2 q => by have := q.1; have := q.2; omega), r5.same s (fun a g1 g2 q => by have := q.1; have := q.2; omega), r6.same s (fun q => by have := q.1; have := q.2; omega), K, r8.same s (fun a g1 q => by have := q.1; have := q.2; omega)⟩
theorem zRB.two (R : zRB o S h) (s : zSame (zTwo (o + 1) (o + 179)) h h') {C : zCo} (K : zKo (o + 1) C h') (W : zWx (o + 179) h') : zRB o (C, S.2) h' := by
  obtain ⟨z, r0, r1, r2, r3, r4, r5, r6, r7, r8⟩ := R
  exact ⟨z, s.get r0 (fun q => by rcases q with q | q <;> (have := q.1; have := q.2; omega)), K, r2.same s (fun a g1 g2 q => by rcases q with q | q <;> (have := q.1; have := q.2; omega)), r3.same s (fun a g1 g2 q => by rcases q with q | q <;> (have := q.1; have := q.2; omega)), W, r5.same s (fun a g1 g2 q => by rcases q with q | q <;> (have := q.1; have := q.2; omega)), r6.same s (fun q => by rcases q with q | q <;> (have := q.1; have := q.2; omega)), r7.same s (fun a g1 g2 q => by rcases q with q | q <;> (have := q.1; have := q.2; omega)), r8.same s (fun a g1 q => by rcases q with q | q <;> (have := q.1; have := q.2; omega))⟩
theorem zRB.take (R : zRB o S h) (s : zSame (fun a => a = o + 33 ∨ zIn (o + 1) 16 a) h h') {C : zCo} {f c : Nat} {H : Nat → zCo} (K : zKo (o + 1) C h') (K2 : zHi (o + 33) f c H h') : zRB o (C, S.2.1, (f, c, H), S.2.2.2) h' := by
  obtain ⟨z, r0, r1, r2, r3, r4, r5, r6, r7, r8⟩ := R
  exact ⟨z, s.get r0 (fun q => by rcases q with q | q; omega; have := q.1; have := q.2; omega), K, r2.same s (fun a g1 g2 q => by rcases q with q | q; omega; have := q.1; have := q.2; omega), K2, r4.same s (fun a g1 g2 q => by rcases q with q | q; omega; have := q.1; have := q.2; omega), r5.same s (fun a g1 g2 q => by rcases q with q | q; omega; have := q.1; have := q.2; omega), r6.same s (fun q => by rcases q with q | q; omega; have := q.1; have := q.2; omega), r7.same s (fun a g1 g2 q => by rcases q with q | q; omega; have := q.1; have := q.2; omega), r8.same s (fun a g1 q => by rcases q with q | q; omega; have := q.1; have := q.2; omega)⟩
theorem zRB.junk (R : zRB o S h) (s : zSame (fun _ => False) h h')  : zRB o S h' := by
  obtain ⟨z, r0, r1, r2, r3, r4, r5, r6, r7, r8⟩ := R
  exact ⟨z, s.get r0 (fun q => by exact q), r1.same s (fun a g1 g2 q => by exact q), r2.same s (fun a g1 g2 q => by exact q), r3.same s (fun a g1 g2 q => by exact q), r4.same s (fun a g1 g2 q => by exact q), r5.same s (fun a g1 g2 q => by exact q), r6.same s (fun q => by exact q), r7.same s (fun a g1 g2 q => by exact q), r8.same s (fun a g1 q => by exact q)⟩
theorem zRB.obj (R : zRB o S h) (s : zSame (fun a => a = o) h h') {B : Bool} {M : Int × Int × Int × Int} (e : h'[o]? = some (12, zBf o (S.1, (S.2.1.1, B), S.2.2.1, S.2.2.2.1, M))) : zRB o (S.1, (S.2.1.1, B), S.2.2.1, S.2.2.2.1, M) h' := by
  obtain ⟨z, r0, r1, r2, r3, r4, r5, r6, r7, r8⟩ := R
  exact ⟨z, e, r1.same s (fun a g1 g2 q => by have q : a = o := q; omega), r2.same s (fun a g1 g2 q => by have q : a = o := q; omega), r3.same s (fun a g1 g2 q => by have q : a = o := q; omega), r4.same s (fun a g1 g2 q => by have q : a = o := q; omega), r5.same s (fun a g1 g2 q => by have q : a = o := q; omega), r6.same s (fun q => by have q : o + 186 = o := q; omega), r7.same s (fun a g1 g2 q => by have q : a = o := q; omega), r8.same s (fun a g1 q => by have q : a = o := q; omega)⟩
theorem zRB.junkR (R : zRB o S h) (j : zH) : zRB o S (h ++ j) := R.junk (zSame.rf.app j)
/-- the answer of a change, the coast behind it, number and detail of its denial -/
abbrev zCh : Type := Int × zCo × Option (Int × Int)
def f_den (M : Int × Int × Int × Int) (d : Option (Int × Int)) : Int × Int × Int × Int := match d with
  | none => M
  | some q => (M.1, q.1, q.2, 0)
def f_put (S : zBt) (r : zCh) : zBt := (r.2.1, S.2.1, S.2.2.1, S.2.2.2.1, f_den S.2.2.2.2 r.2.2)
theorem m_keepDenial {n d c : Int} (R : zRB o S h) : zMet yX10_keepDenial cX10_keepDenial 4 none 1 0 0 [.ref o, .int (iI n), .int (iI d), .int (iI c)] h (fun v h' => v = none ∧ zRB o (S.1, S.2.1, S.2.2.1, S.2.2.2.1, (S.2.2.2.2.1, n, d, c)) h') (fun _ _ => False) := by
  refine zMet.go (by decide +kernel) (Nat.le_of_ble_eq_true rfl) ?_
  intro X F B hnl hR hn
  have z := R.1
  have r0 := R.2.1
  refine z_aload_n F dX10_keepDenial_0 rfl rfl ?_
  refine z_iload_n F dX10_keepDenial_1 rfl rfl ?_
  refine z_putfield F fp_X10_340 dX10_keepDenial_2 (zmut_of F (by omega)) r0 (by decide) (Nat.le_of_ble_eq_true rfl) ⟨rfl, rfl⟩ ?_
  refine z_aload_n F dX10_keepDenial_5 rfl rfl ?_
  refine z_iload_n F dX10_keepDenial_6 rfl rfl ?_
  refine zi_putS F fp_X10_388 dX10_keepDenial_7 (zmut_of F (by omega)) r0 (by decide) (Nat.le_of_ble_eq_true rfl) ⟨rfl, rfl⟩ ?_
  refine z_aload_n F dX10_keepDenial_10 rfl rfl ?_
  refine z_iload_n F dX10_keepDenial_11 rfl rfl ?_
  refine zi_putS F fp_X10_391 dX10_keepDenial_12 (zmut_of F (by omega)) r0 (by decide) (Nat.le_of_ble_eq_true rfl) ⟨rfl, rfl⟩ ?_
  exact Z.widen (by decide) (by decide) (z_return F B dX10_keepDenial_15 ⟨rfl, R.obj (zSame.rf.set rfl) (zset_same r0)⟩)
theorem m_deny {n d : Int} (R : zRB o S h) : zMet yX10_deny cX10_deny 3 (some .int) 2 0 0 [.ref o, .int (iI n), .int (iI d)] h (fun v h' => v = some (.int (iI (-3))) ∧ zRB o (f_put S (-3, S.1, some (n, d))) h') (fun _ _ => False) := by
  refine zMet.go (by decide +kernel) (Nat.le_of_ble_eq_true rfl) ?_
  intro X F B hnl hR hn
  have r0 := R.2.1
  refine z_aload_n F dX10_deny_0 rfl rfl ?_
  refine z_iload_n F dX10_deny_1 rfl rfl ?_
  refine z_iload_n F dX10_deny_2 rfl rfl ?_
  refine zi_iconst F dX10_deny_3 ?_
  refine z_callV F B cal_yX10_keepDenial (m_keepDenial R) dX10_deny_4 rfl rfl (Nat.le_of_ble_eq_true rfl) (by decide) (by decide) (by decide) ml_X10_343 im_yX10_keepDenial se_yX10_keepDenial r0 (by decide) rfl rfl (fun v hX qX => ?_) (fun C h1 q => q.elim)
  obtain ⟨rfl, R1⟩ := qX
  refine zi_bipush F dX10_deny_7 (by decide) ?_
  exact Z.widen (by decide) (by decide) (z_ireturn F rfl B dX10_deny_9 ⟨rfl, R1⟩)
def zVl (x y : Int) : Prop := 0 ≤ x ∧ x < 8 ∧ 0 ≤ y ∧ y < 8
def f_cd (C : zCo) (x y d : Int) : zCh := if 0 ≤ x ∧ x < 8 ∧ 0 ≤ y ∧ y < 8 then (if 0 ≤ d ∧ d ≤ 9 then (if (C.1 (8 * y + x).toNat : Int) = d then (-3, C, some (7, d)) else (C.1 (8 * y + x).toNat, (zup C.1 (8 * y + x).toNat d.toNat, C.2), none)) else (-2, C, none)) else (-1, C, none)
def f_pl (C : zCo) (x y r p : Int) : zCh := if 0 ≤ x ∧ x < 8 ∧ 0 ≤ y ∧ y < 8 then (if (1 ≤ r ∧ r ≤ 9) ∧ 8 ≤ p ∧ p ≤ 24 then (if 6 ≤ C.2.2.2.1.1 then (-3, C, some (1, 6)) else match f_lix C (8 * y + x).toNat C.2.2.2.1.1 0 with
  | some i => (-3, C, some (2, i))
  | none => (C.2.2.2.1.1, (C.1, zup C.2.1 C.2.2.2.1.1 ((8 * y + x).toNat, r.toNat, p.toNat, 0, 0), C.2.2.1, (C.2.2.2.1.1 + 1, C.2.2.2.1.2), C.2.2.2.2), none)) else (-2, C, none)) else (-1, C, none)
def lph (l : zLt) (p : Nat) : zLt := (l.1, l.2.1, l.2.2.1, p, l.2.2.2.2)
def f_cp (C : zCo) (l p : Int) : zCh := if 0 ≤ l ∧ l < C.2.2.2.1.1 then (if 0 ≤ p ∧ p < 8 then (if ((C.2.1 l.toNat).2.2.2.1 : Int) = p then (-3, C, some (7, p)) else ((C.2.1 l.toNat).2.2.2.1, (C.1, zup C.2.1 l.toNat (lph (C.2.1 l.toNat) p.toNat), C.2.2), none)) else (-2, C, none)) else (-1, C, none)
def f_dl (C : zCo) (l : Int) : zCh := if 0 ≤ l ∧ l < C.2.2.2.1.1 then ((C.2.1 l.toNat).2.2.2.2, (C.1, (fun k => C.2.1 (zrot l.toNat C.2.2.2.1.1 k)), C.2.2.1, (C.2.2.2.1.1 - 1, C.2.2.2.1.2), (C.2.2.2.2.1, C.2.2.2.2.2.1, C.2.2.2.2.2.2.1 + (C.2.1 l.toNat).2.2.2.2, C.2.2.2.2.2.2.2)), none) else (-1, C, none)
def f_ls (C : zCo) (x y d : Int) : zCh := if 0 ≤ x ∧ x < 8 ∧ 0 ≤ y ∧ y < 8 then (if 1 ≤ d ∧ d ≤ 9 then (if 6 ≤ C.2.2.2.1.2 then (-3, C, some (1, 6)) else if (f_wa C (8 * y + x).toNat : Int) < d then (-3, C, some (3, f_wa C (8 * y + x).toNat)) else (C.2.2.2.1.2, (C.1, C.2.1, zup C.2.2.1 C.2.2.2.1.2 ((8 * y + x).toNat, d.toNat, none, false, 0), (C.2.2.2.1.1, C.2.2.2.1.2 + 1), C.2.2.2.2), none)) else (-2, C, none)) else (-1, C, none)
def sgo (s : zSp) (g : Option Nat) : zSp := (s.1, s.2.1, g, s.2.2.2.1, s.2.2.2.2)
def f_cg (C : zCo) (s x y : Int) : zCh := if (0 ≤ s ∧ s < C.2.2.2.1.2) ∧ 0 ≤ x ∧ x < 8 ∧ 0 ≤ y ∧ y < 8 then (if (C.2.2.1 s.toNat).2.2.2.1 then (-3, C, some (5, s)) else match f_ln (f_opF C (f_tide C.2.2.2.2.1) (C.2.2.1 s.toNat).2.1) (C.2.2.1 s.toNat).1 (8 * y + x).toNat with
  | none => (-3, C, some (4, s))
  | some k => (k, (C.1, C.2.1, zup C.2.2.1 s.toNat (sgo (C.2.2.1 s.toNat) (if (8 * y + x).toNat = (C.2.2.1 s.toNat).1 then none else some (8 * y + x).toNat)), C.2.2.2), none)) else (-1, C, none)
def f_sv (C : zCo) (s : Int) : zCh := if 0 ≤ s ∧ s < C.2.2.2.1.2 then (if (C.2.2.1 s.toNat).2.2.2.1 then ((10 * (C.2.2.1 s.toNat).2.1 : Nat), (C.1, C.2.1, (fun k => C.2.2.1 (zrot s.toNat C.2.2.2.1.2 k)), (C.2.2.2.1.1, C.2.2.2.1.2 - 1), (C.2.2.2.2.1, C.2.2.2.2.2.1, C.2.2.2.2.2.2.1, C.2.2.2.2.2.2.2.1, C.2.2.2.2.2.2.2.2 + 10 * (C.2.2.1 s.toNat).2.1)), none) else (-3, C, some (6, s))) else (-1, C, none)
/-- one minute -/
def f_min (C : zCo) : zCo := f_sg (f_wk (C.1, C.2.1, f_mv (C.1, C.2.1, C.2.2.1, C.2.2.2.1, (C.2.2.2.2.1 + 1, C.2.2.2.2.2)) C.2.2.2.1.2, C.2.2.2.1, (C.2.2.2.2.1 + 1, C.2.2.2.2.2)))
def f_mins : Nat → zCo → zCo
  | 0, C => C
  | n + 1, C => f_mins n (f_min C)
def f_ps (C : zCo) (m : Int) : zCh := if 1 ≤ m ∧ m ≤ 48 then (((f_mins m.toNat C).2.2.2.2.2.1 : Int) - C.2.2.2.2.2.1, f_mins m.toNat C, none) else (-2, C, none)
theorem f_put_id (S : zBt) (a : Int) : f_put S (a, S.1, none) = S := rfl
end
section
variable {o K : Nat} {S : zBt} {h : zH}
theorem m_changeDepth {x y d : Int} (hx : zI32 x) (hy : zI32 y) (hd : zI32 d) (R : zRB o S h) (hO : zOk K S.1) (hK : K < 1800000) : zMet yX10_changeDepth cX10_changeDepth 6 (some .int) 3 0 0 [.ref o, .int (iI x), .int (iI y), .int (iI d)] h (fun v h' => v = some (.int (iI (f_cd S.1 x y d).1)) ∧ zRB o (f_put S (f_cd S.1 x y d)) h') (fun _ _ => False) := by
  refine zMet.go (by decide +kernel) (Nat.le_of_ble_eq_true rfl) ?_
  intro X F B hnl hR hn
  have z := R.1
  have r0 := R.2.1
  obtain ⟨σ, τ, r1⟩ := R.2.2.1
  have hd1 := hd.1
  have hd2 := hd.2
  by_cases hv : 0 ≤ x ∧ x < 8 ∧ 0 ≤ y ∧ y < 8
  · refine z_iload_n F dX10_changeDepth_0 rfl rfl ?_
    refine z_iload_n F dX10_changeDepth_1 rfl rfl ?_
    refine z_callS F B cal_yX10_isCell (m_isCell hx hy _) dX10_changeDepth_2 rfl rfl (Nat.le_of_ble_eq_true rfl) (by decide) (by decide) (by decide) ml_X10_410 st_yX10_isCell (fun v hX qX => ?_) (fun C h1 q => q.elim)
    obtain ⟨rfl, qX⟩ := qX
    rw [qX]
    clear qX hX
    rw [if_pos hv]
    refine zi_if_ne (tgt := 10) F dX10_changeDepth_5 (by decide) (by first | omega | (dsimp only at *; omega)) (fun c5 => ?_) (fun c5 => False.elim (by first | omega | (dsimp only at *; omega)))
    refine z_iload_n F dX10_changeDepth_10 rfl rfl ?_
    refine zi_if_lt (tgt := 20) F dX10_changeDepth_11 (by decide) (by first | omega | (dsimp only at *; omega)) (fun c11 => ?_) (fun c11 => ?_)
    · refine zi_bipush F dX10_changeDepth_20 (by decide) ?_
      exact Z.widen (by decide) (by decide) (z_ireturn F rfl B dX10_changeDepth_22 (by have e : f_cd S.1 x y d = (-2, S.1, none) := (by unfold f_cd; rw [if_pos hv, if_neg (by omega)]); rw [e]; exact ⟨rfl, R⟩))
    · refine z_iload_n F dX10_changeDepth_14 rfl rfl ?_
      refine zi_bipush F dX10_changeDepth_15 (by decide) ?_
      refine zi_icmp_le (tgt := 23) F dX10_changeDepth_17 (by decide) (by first | omega | (dsimp only at *; omega)) (fun c17 => ?_) (fun c17 => ?_)
      · refine z_iload_n F dX10_changeDepth_23 rfl rfl ?_
        refine zi_bipush F dX10_changeDepth_24 (by decide) ?_
        refine zi_imul F dX10_changeDepth_26 ?_
        refine z_iload_n F dX10_changeDepth_27 rfl rfl ?_
        refine zi_iadd F dX10_changeDepth_28 ?_
        rw [show (y * 8 + x : Int) = (((8 * y + x).toNat : Nat) : Int) by omega]
        refine z_istore F dX10_changeDepth_29 rfl (hnl _ rfl) ?_
        have hc : (8 * y + x).toNat < 64 := by omega
        have h9 := hO.1 (8 * y + x).toNat
        have e0 : f_cd S.1 x y d = if (S.1.1 (8 * y + x).toNat : Int) = d then ((-3, S.1, some (7, d)) : zCh) else (((S.1.1 (8 * y + x).toNat : Nat), (zup S.1.1 (8 * y + x).toNat d.toNat, S.1.2), none) : zCh) := by unfold f_cd; rw [if_pos hv, if_pos (by omega)]
        generalize (8 * y + x).toNat = c at hc h9 e0 ⊢
        refine z_aload_n F dX10_changeDepth_31 rfl rfl ?_
        refine z_getfield F fl_X10_12 dX10_changeDepth_32 r0 (by decide) rfl ?_
        refine z_getfield F fl_X10_290 dX10_changeDepth_35 r1.ob (by decide) rfl ?_
        refine z_iload F dX10_changeDepth_38 rfl ?_
        refine zi_iaload (i := c) F dX10_changeDepth_40 r1.dp rfl (by omega) (zar_get (by omega)) ?_
        refine z_istore F dX10_changeDepth_41 rfl (hnl _ rfl) ?_
        refine z_iload F dX10_changeDepth_43 rfl ?_
        refine z_iload_n F dX10_changeDepth_45 rfl rfl ?_
        refine zi_icmp_ne (tgt := 57) F dX10_changeDepth_46 (by decide) (by first | omega | (dsimp only at *; omega)) (fun c46 => ?_) (fun c46 => ?_)
        · refine z_aload_n F dX10_changeDepth_57 rfl rfl ?_
          refine z_getfield F fl_X10_12 dX10_changeDepth_58 r0 (by decide) rfl ?_
          refine z_getfield F fl_X10_290 dX10_changeDepth_61 r1.ob (by decide) rfl ?_
          refine z_iload F dX10_changeDepth_64 rfl ?_
          refine z_iload_n F dX10_changeDepth_66 rfl rfl ?_
          refine zi_iastore (i := c) F dX10_changeDepth_67 (zmut_of F (by omega)) r1.dp rfl (by rw [zar_len]; omega) ?_
          have hdn : iI d = iI ((d.toNat : Nat) : Int) := by congr 1; omega
          rw [hdn]
          refine z_iload F dX10_changeDepth_68 rfl ?_
          exact Z.widen (by decide) (by decide) (z_ireturn F rfl B dX10_changeDepth_70 (by rw [e0, if_neg (by omega)]; exact ⟨rfl, R.coast (zSame.rf.set ⟨by omega, by omega⟩) ⟨σ, τ, r1.putD c d.toNat⟩⟩))
        · refine z_aload_n F dX10_changeDepth_49 rfl rfl ?_
          refine zi_bipush F dX10_changeDepth_50 (by decide) ?_
          refine z_iload_n F dX10_changeDepth_52 rfl rfl ?_
          refine z_callV F B cal_yX10_deny (m_deny R) dX10_changeDepth_53 rfl rfl (Nat.le_of_ble_eq_true rfl) (by decide) (by decide) (by decide) ml_X10_414 im_yX10_deny se_yX10_deny r0 (by decide) rfl rfl (fun v hX qX => ?_) (fun C h1 q => q.elim)
          obtain ⟨rfl, R1⟩ := qX
          exact Z.widen (by decide) (by decide) (z_ireturn F rfl B dX10_changeDepth_56 (by rw [e0, if_pos (by omega)]; exact ⟨rfl, R1⟩))
      · refine zi_bipush F dX10_changeDepth_20 (by decide) ?_
        exact Z.widen (by decide) (by decide) (z_ireturn F rfl B dX10_changeDepth_22 (by have e : f_cd S.1 x y d = (-2, S.1, none) := (by unfold f_cd; rw [if_pos hv, if_neg (by omega)]); rw [e]; exact ⟨rfl, R⟩))
  · refine z_iload_n F dX10_changeDepth_0 rfl rfl ?_
    refine z_iload_n F dX10_changeDepth_1 rfl rfl ?_
    refine z_callS F B cal_yX10_isCell (m_isCell hx hy _) dX10_changeDepth_2 rfl rfl (Nat.le_of_ble_eq_true rfl) (by decide) (by decide) (by decide) ml_X10_410 st_yX10_isCell (fun v hX qX => ?_) (fun C h1 q => q.elim)
    obtain ⟨rfl, qX⟩ := qX
    rw [qX]
    clear qX hX
    rw [if_neg hv]
    refine zi_if_ne (tgt := 10) F dX10_changeDepth_5 (by decide) (by first | omega | (dsimp only at *; omega)) (fun c5 => False.elim (by first | omega | (dsimp only at *; omega))) (fun c5 => ?_)
    refine zi_iconst F dX10_changeDepth_8 ?_
    exact Z.widen (by decide) (by decide) (z_ireturn F rfl B dX10_changeDepth_9 (by have e : f_cd S.1 x y d = (-1, S.1, none) := (by unfold f_cd; rw [if_neg hv]); rw [e]; exact ⟨rfl, R⟩))
theorem m_placeLight {x y r p : Int} (hx : zI32 x) (hy : zI32 y) (hr : zI32 r) (hp : zI32 p) (R : zRB o S h) (hO : zOk K S.1) (hK : K < 1800000) : zMet yX10_placeLight cX10_placeLight 8 (some .int) 3 0 0 [.ref o, .int (iI x), .int (iI y), .int (iI r), .int (iI p)] h (fun v h' => v = some (.int (iI (f_pl S.1 x y r p).1)) ∧ zRB o (f_put S (f_pl S.1 x y r p)) h') (fun _ _ => False) := by
  refine zMet.go (by decide +kernel) (Nat.le_of_ble_eq_true rfl) ?_
  intro X F B hnl hR hn
  have z := R.1
  have r0 := R.2.1
  obtain ⟨σ, τ, r1⟩ := R.2.2.1
  have hr1 := hr.1
  have hr2 := hr.2
  have hp1 := hp.1
  have hp2 := hp.2
  have hl6 := hO.2.2.2.1
  by_cases hv : 0 ≤ x ∧ x < 8 ∧ 0 ≤ y ∧ y < 8
  · have hgo : (1 ≤ r ∧ r ≤ 9) ∧ 8 ≤ p ∧ p ≤ 24 → Z X 0 0 38 [(0, .ref o), (1, .int (iI x)), (2, .int (iI y)), (3, .int (iI r)), (4, .int (iI p))] [] h := by
      intro hrp
      refine z_aload_n F dX10_placeLight_38 rfl rfl ?_
      refine z_getfield F fl_X10_12 dX10_placeLight_39 r0 (by decide) rfl ?_
      refine z_getfield F fl_X10_134 dX10_placeLight_42 r1.ob (by decide) rfl ?_
      refine z_istore F dX10_placeLight_45 rfl (hnl _ rfl) ?_
      refine z_iload F dX10_placeLight_47 rfl ?_
      refine zi_bipush F dX10_placeLight_49 (by decide) ?_
      refine zi_icmp_lt (tgt := 62) F dX10_placeLight_51 (by decide) (by omega) (fun c51 => ?_) (fun c51 => ?_); rotate_left
      · refine z_aload_n F dX10_placeLight_54 rfl rfl ?_
        refine zi_iconst F dX10_placeLight_55 ?_
        refine zi_bipush F dX10_placeLight_56 (by decide) ?_
        refine z_callV F B cal_yX10_deny (m_deny R) dX10_placeLight_58 rfl rfl (Nat.le_of_ble_eq_true rfl) (by decide) (by decide) (by decide) ml_X10_414 im_yX10_deny se_yX10_deny r0 (by decide) rfl rfl (fun v hX qX => ?_) (fun C h1 q => q.elim)
        obtain ⟨rfl, R1⟩ := qX
        exact Z.widen (by decide) (by decide) (z_ireturn F rfl B dX10_placeLight_61 (by have e : f_pl S.1 x y r p = (-3, S.1, some (1, 6)) := (by unfold f_pl; rw [if_pos hv, if_pos hrp, if_pos (by omega)]); rw [e]; exact ⟨rfl, R1⟩))
      refine z_iload_n F dX10_placeLight_62 rfl rfl ?_
      refine zi_bipush F dX10_placeLight_63 (by decide) ?_
      refine zi_imul F dX10_placeLight_65 ?_
      refine z_iload_n F dX10_placeLight_66 rfl rfl ?_
      refine zi_iadd F dX10_placeLight_67 ?_
      rw [show (y * 8 + x : Int) = (((8 * y + x).toNat : Nat) : Int) by omega]
      refine z_istore F dX10_placeLight_68 rfl (hnl _ rfl) ?_
      have hc : (8 * y + x).toNat < 64 := by omega
      have e0 : f_pl S.1 x y r p = match f_lix S.1 (8 * y + x).toNat S.1.2.2.2.1.1 0 with | some i => ((-3, S.1, some (2, (i : Int))) : zCh) | none => (((S.1.2.2.2.1.1 : Nat), (S.1.1, zup S.1.2.1 S.1.2.2.2.1.1 ((8 * y + x).toNat, r.toNat, p.toNat, 0, 0), S.1.2.2.1, (S.1.2.2.2.1.1 + 1, S.1.2.2.2.1.2), S.1.2.2.2.2), none) : zCh) := by unfold f_pl; rw [if_pos hv, if_pos hrp, if_neg (by omega)]
      generalize (8 * y + x).toNat = c at hc e0 ⊢
      refine z_aload_n F dX10_placeLight_70 rfl rfl ?_
      refine z_getfield F fl_X10_12 dX10_placeLight_71 r0 (by decide) rfl ?_
      refine z_iload F dX10_placeLight_74 rfl ?_
      refine z_callV F B cal_yX2_lightIndexOn (m_lightIndexOn r1 hO hc) dX10_placeLight_76 rfl rfl (Nat.le_of_ble_eq_true rfl) (by decide) (by decide) (by decide) ml_X10_137 im_yX2_lightIndexOn se_yX2_lightIndexOn r1.ob (by decide) rfl rfl (fun v hX qX => ?_) (fun C h1 q => q.elim)
      obtain ⟨rfl, qX⟩ := qX
      rw [qX]
      clear qX hX
      rcases hf : f_lix S.1 c S.1.2.2.2.1.1 0 with _ | i
      · rw [hf] at e0
        rw [show zGo none = -1 from rfl]
        have hln := r1.li (i := S.1.2.2.2.1.1) (by omega)
        have ps := r1.ps.1 S.1.2.2.2.1.1 (by omega)
        refine z_istore F dX10_placeLight_79 rfl (hnl _ rfl) ?_
        refine z_iload F dX10_placeLight_81 rfl ?_
        refine zi_if_lt (tgt := 94) F dX10_placeLight_83 (by decide) (by first | omega | (dsimp only at *; omega)) (fun c83 => ?_) (fun c83 => False.elim (by first | omega | (dsimp only at *; omega)))
        refine z_aload_n F dX10_placeLight_94 rfl rfl ?_
        refine z_getfield F fl_X10_12 dX10_placeLight_95 r0 (by decide) rfl ?_
        refine z_getfield F fl_X10_280 dX10_placeLight_98 r1.ob (by decide) rfl ?_
        refine z_iload F dX10_placeLight_101 rfl ?_
        refine zi_aaload (i := S.1.2.2.2.1.1) F dX10_placeLight_103 r1.la (by decide) (by decide) rfl rfl (by omega) (zar_get (by omega)) rfl ?_
        refine z_iload F dX10_placeLight_104 rfl ?_
        refine z_iload_n F dX10_placeLight_106 rfl rfl ?_
        refine z_iload F dX10_placeLight_107 rfl ?_
        rw [show iI r = iI ((r.toNat : Nat) : Int) by congr 1; omega, show iI p = iI ((p.toNat : Nat) : Int) by congr 1; omega]
        refine z_callV F B cal_yX7_start (m_lstart (by omega) hln) dX10_placeLight_109 rfl rfl (Nat.le_of_ble_eq_true rfl) (by decide) (by decide) (by decide) ml_X10_417 im_yX7_start se_yX7_start hln (by decide) rfl rfl (fun v hX qX => ?_) (fun C h1 q => q.elim)
        obtain ⟨rfl, rfl⟩ := qX
        have r2 := r1.putL (i := S.1.2.2.2.1.1) (by omega) (c, r.toNat, p.toNat, 0, 0) rfl
        refine z_aload_n F dX10_placeLight_112 rfl rfl ?_
        refine z_getfield F fl_X10_12 dX10_placeLight_113 (zkeep r0 (by omega)) (by decide) rfl ?_
        refine z_dup F dX10_placeLight_116 rfl ?_
        refine z_getfield F fl_X10_134 dX10_placeLight_117 r2.ob (by decide) rfl ?_
        refine zi_iconst F dX10_placeLight_120 ?_
        refine zi_iadd F dX10_placeLight_121 ?_
        refine z_putfield F fp_X10_134 dX10_placeLight_122 (zmut_of F (by omega)) r2.ob (by decide) (Nat.le_of_ble_eq_true rfl) ⟨rfl, rfl⟩ ?_
        refine z_iload F dX10_placeLight_125 rfl ?_
        exact Z.widen (by decide) (by decide) (z_ireturn F rfl B dX10_placeLight_127 (by rw [e0]; exact ⟨rfl, R.coast ((zSame.rf.set ⟨by omega, by omega⟩).set ⟨by omega, by omega⟩) ⟨σ, τ, r2.putO (S.1.1, zup S.1.2.1 S.1.2.2.2.1.1 (c, r.toNat, p.toNat, 0, 0), S.1.2.2.1, (S.1.2.2.2.1.1 + 1, S.1.2.2.2.1.2), S.1.2.2.2.2) rfl rfl rfl rfl⟩⟩))
      · rw [hf] at e0
        have hi := f_lix_lt hf
        rw [show zGo (some i) = (i : Int) from rfl]
        refine z_istore F dX10_placeLight_79 rfl (hnl _ rfl) ?_
        refine z_iload F dX10_placeLight_81 rfl ?_
        refine zi_if_lt (tgt := 94) F dX10_placeLight_83 (by decide) (by first | omega | (dsimp only at *; omega)) (fun c83 => False.elim (by first | omega | (dsimp only at *; omega))) (fun c83 => ?_)
        refine z_aload_n F dX10_placeLight_86 rfl rfl ?_
        refine zi_iconst F dX10_placeLight_87 ?_
        refine z_iload F dX10_placeLight_88 rfl ?_
        refine z_callV F B cal_yX10_deny (m_deny R) dX10_placeLight_90 rfl rfl (Nat.le_of_ble_eq_true rfl) (by decide) (by decide) (by decide) ml_X10_414 im_yX10_deny se_yX10_deny r0 (by decide) rfl rfl (fun v hX qX => ?_) (fun C h1 q => q.elim)
        obtain ⟨rfl, R1⟩ := qX
        exact Z.widen (by decide) (by decide) (z_ireturn F rfl B dX10_placeLight_93 (by rw [e0]; exact ⟨rfl, R1⟩))
    refine z_iload_n F dX10_placeLight_0 rfl rfl ?_
    refine z_iload_n F dX10_placeLight_1 rfl rfl ?_
    refine z_callS F B cal_yX10_isCell (m_isCell hx hy _) dX10_placeLight_2 rfl rfl (Nat.le_of_ble_eq_true rfl) (by decide) (by decide) (by decide) ml_X10_410 st_yX10_isCell (fun v hX qX => ?_) (fun C h1 q => q.elim)
    obtain ⟨rfl, qX⟩ := qX
    rw [qX]
    clear qX hX
    rw [if_pos hv]
    refine zi_if_ne (tgt := 10) F dX10_placeLight_5 (by decide) (by first | omega | (dsimp only at *; omega)) (fun c5 => ?_) (fun c5 => False.elim (by first | omega | (dsimp only at *; omega)))
    refine z_iload_n F dX10_placeLight_10 rfl rfl ?_
    refine zi_iconst F dX10_placeLight_11 ?_
    refine zi_icmp_lt (tgt := 35) F dX10_placeLight_12 (by decide) (by first | omega | (dsimp only at *; omega)) (fun c12 => ?_) (fun c12 => ?_)
    · refine zi_bipush F dX10_placeLight_35 (by decide) ?_
      exact Z.widen (by decide) (by decide) (z_ireturn F rfl B dX10_placeLight_37 (by have e : f_pl S.1 x y r p = (-2, S.1, none) := (by unfold f_pl; rw [if_pos hv, if_neg (by omega)]); rw [e]; exact ⟨rfl, R⟩))
    · refine z_iload_n F dX10_placeLight_15 rfl rfl ?_
      refine zi_bipush F dX10_placeLight_16 (by decide) ?_
      refine zi_icmp_gt (tgt := 35) F dX10_placeLight_18 (by decide) (by first | omega | (dsimp only at *; omega)) (fun c18 => ?_) (fun c18 => ?_)
      · refine zi_bipush F dX10_placeLight_35 (by decide) ?_
        exact Z.widen (by decide) (by decide) (z_ireturn F rfl B dX10_placeLight_37 (by have e : f_pl S.1 x y r p = (-2, S.1, none) := (by unfold f_pl; rw [if_pos hv, if_neg (by omega)]); rw [e]; exact ⟨rfl, R⟩))
      · refine z_iload F dX10_placeLight_21 rfl ?_
        refine zi_bipush F dX10_placeLight_23 (by decide) ?_
        refine zi_icmp_lt (tgt := 35) F dX10_placeLight_25 (by decide) (by first | omega | (dsimp only at *; omega)) (fun c25 => ?_) (fun c25 => ?_)
        · refine zi_bipush F dX10_placeLight_35 (by decide) ?_
          exact Z.widen (by decide) (by decide) (z_ireturn F rfl B dX10_placeLight_37 (by have e : f_pl S.1 x y r p = (-2, S.1, none) := (by unfold f_pl; rw [if_pos hv, if_neg (by omega)]); rw [e]; exact ⟨rfl, R⟩))
        · refine z_iload F dX10_placeLight_28 rfl ?_
          refine zi_bipush F dX10_placeLight_30 (by decide) ?_
          refine zi_icmp_le (tgt := 38) F dX10_placeLight_32 (by decide) (by first | omega | (dsimp only at *; omega)) (fun c32 => ?_) (fun c32 => ?_)
          · exact Z.keys [0, 1, 2, 3, 4] rfl (hgo (by omega))
          · refine zi_bipush F dX10_placeLight_35 (by decide) ?_
            exact Z.widen (by decide) (by decide) (z_ireturn F rfl B dX10_placeLight_37 (by have e : f_pl S.1 x y r p = (-2, S.1, none) := (by unfold f_pl; rw [if_pos hv, if_neg (by omega)]); rw [e]; exact ⟨rfl, R⟩))
  · refine z_iload_n F dX10_placeLight_0 rfl rfl ?_
    refine z_iload_n F dX10_placeLight_1 rfl rfl ?_
    refine z_callS F B cal_yX10_isCell (m_isCell hx hy _) dX10_placeLight_2 rfl rfl (Nat.le_of_ble_eq_true rfl) (by decide) (by decide) (by decide) ml_X10_410 st_yX10_isCell (fun v hX qX => ?_) (fun C h1 q => q.elim)
    obtain ⟨rfl, qX⟩ := qX
    rw [qX]
    clear qX hX
    rw [if_neg hv]
    refine zi_if_ne (tgt := 10) F dX10_placeLight_5 (by decide) (by first | omega | (dsimp only at *; omega)) (fun c5 => False.elim (by first | omega | (dsimp only at *; omega))) (fun c5 => ?_)
    refine zi_iconst F dX10_placeLight_8 ?_
    exact Z.widen (by decide) (by decide) (z_ireturn F rfl B dX10_placeLight_9 (by have e : f_pl S.1 x y r p = (-1, S.1, none) := (by unfold f_pl; rw [if_neg hv]); rw [e]; exact ⟨rfl, R⟩))
end
