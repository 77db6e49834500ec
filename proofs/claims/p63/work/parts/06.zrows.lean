/-! rows of the Z layer: locals, stack, arithmetic, branches -/
abbrev zX : Type := Program × Launch × Env × Room × State × MethodId × Array Value × List Frame × Method × Code × (State → Prop) × zG × Nat
def zlk : zL → Nat → Option Value
  | [], _ => none
  | (j, v) :: t, i => match Nat.beq j i with
    | true => some v
    | false => zlk t i
def zpl (g : zG) : zL → List (Nat × Value)
  | [] => []
  | (i, v) :: t => (i, zv g v) :: (zpl g t).filter (fun q => !(q.1 == i))
/-- no long stands just below place i -/
def zok (i : Nat) : zL → Bool
  | [] => true
  | q :: t => match Nat.beq (q.1 + 1) i with
    | true => (match q.2 with
      | .long _ => false
      | .double _ => false
      | _ => zok i t)
    | false => zok i t
/-- place i isn't listed -/
def zno (i : Nat) : zL → Bool
  | [] => true
  | q :: t => match Nat.beq q.1 i with
    | true => false
    | false => zno i t
theorem zv_cat (g : zG) (v : Value) : (zv g v).category = v.category := by cases v <;> rfl
theorem zlk_mem (g : zG) : ∀ (ls : zL) (i : Nat) (v : Value), zlk ls i = some v → (i, zv g v) ∈ zpl g ls
  | [], i, v, h => by simp [zlk] at h
  | (j, w) :: t, i, v, h => by
    simp only [zlk] at h
    simp only [zpl]
    cases hb : Nat.beq j i with
    | true =>
      rw [hb] at h
      have e1 : j = i := Nat.eq_of_beq_eq_true hb
      have e2 : w = v := by simpa using h
      subst e1; subst e2
      exact List.mem_cons_self
    | false =>
      rw [hb] at h
      have e1 : ¬ j = i := fun q => by rw [q, Nat.beq_refl] at hb; cases hb
      refine List.mem_cons_of_mem _ (List.mem_filter.mpr ⟨zlk_mem g t i v h, ?_⟩)
      simp
      exact fun q => e1 q.symm
theorem zlk_at {g : zG} {la : Array Slot} {nL : Nat} {ls : zL} {i : Nat} {v : Value} (hl : lv_has la nL (zpl g ls)) (h : zlk ls i = some v) : la[i]? = some (.val (zv g v)) := hl.2.2 (i, zv g v) (zlk_mem g ls i v h)
theorem zpl_mem (g : zG) : ∀ (ls : zL) (q : Nat × Value), q ∈ zpl g ls → ∃ v, (q.1, v) ∈ ls ∧ q.2 = zv g v
  | [], q, h => by simp [zpl] at h
  | (j, w) :: t, q, h => by
    simp only [zpl] at h
    rcases List.mem_cons.mp h with h | h
    · exact ⟨w, by rw [h]; exact List.mem_cons_self, by rw [h]⟩
    · obtain ⟨v, h1, h2⟩ := zpl_mem g t q (List.mem_filter.mp h).1
      exact ⟨v, List.mem_cons_of_mem _ h1, h2⟩
theorem zok_mem : ∀ (i : Nat) (ls : zL), zok i ls = true → ∀ q ∈ ls, q.1 + 1 = i → q.2.category ≠ 2
  | i, [], _, q, h, _ => by simp at h
  | i, r :: t, h, q, hq, hi => by
    unfold zok at h
    rcases List.mem_cons.mp hq with e | hq
    · subst e
      rw [hi, Nat.beq_refl] at h
      obtain ⟨a, v⟩ := q
      cases v <;> simp [Value.category] at h ⊢
    · refine zok_mem i t ?_ q hq hi
      cases hb : Nat.beq (r.1 + 1) i with
      | true =>
        rw [hb] at h
        obtain ⟨a, v⟩ := r
        cases v <;> simp at h <;> exact h
      | false => rw [hb] at h; exact h
theorem zno_mem : ∀ (i : Nat) (ls : zL), zno i ls = true → ∀ q ∈ ls, q.1 ≠ i
  | i, [], _, q, h => by simp at h
  | i, r :: t, h, q, hq => by
    unfold zno at h
    cases hb : Nat.beq r.1 i with
    | true => rw [hb] at h; cases h
    | false =>
      rw [hb] at h
      rcases List.mem_cons.mp hq with e | hq
      · subst e
        intro q2
        rw [q2, Nat.beq_refl] at hb
        cases hb
      · exact zno_mem i t h q hq
theorem lv_mono {la : Array Slot} {nL : Nat} {l l' : List (Nat × Value)} (h : lv_has la nL l) (hs : ∀ q ∈ l', q ∈ l) : lv_has la nL l' := ⟨h.1, h.2.1, fun q hq => h.2.2 q (hs q hq)⟩
theorem zst1 {g : zG} {la : Array Slot} {nL i : Nat} {v : Value} {ls : zL} (h : lv_has la nL ((i, zv g v) :: (zpl g ls).filter (fun q => !(q.1 == i) && !(q.1 + 1 == i && q.2.category == 2)))) (ho : zok i ls = true) : lv_has la nL (zpl g ((i, v) :: ls)) := by
  refine lv_mono h fun q hq => ?_
  simp only [zpl] at hq
  rcases List.mem_cons.mp hq with e | hq
  · rw [e]; exact List.mem_cons_self
  · obtain ⟨h1, h2⟩ := List.mem_filter.mp hq
    refine List.mem_cons_of_mem _ (List.mem_filter.mpr ⟨h1, ?_⟩)
    rw [h2, Bool.true_and]
    obtain ⟨v2, h3, h4⟩ := zpl_mem g ls q h1
    by_cases hi : q.1 + 1 = i
    · have := zok_mem i ls ho (q.1, v2) h3 hi
      rw [h4, zv_cat]
      simp [hi, this]
    · simp [hi]
theorem zst2 {g : zG} {la : Array Slot} {nL i : Nat} {v : Value} {ls : zL} (h : lv_has la nL ((i, zv g v) :: (zpl g ls).filter (fun q => !(q.1 == i) && (!(q.1 == i + 1) && !(q.1 + 1 == i && q.2.category == 2))))) (ho : zok i ls = true) (hn : zno (i + 1) ls = true) : lv_has la nL (zpl g ((i, v) :: ls)) := by
  refine lv_mono h fun q hq => ?_
  simp only [zpl] at hq
  rcases List.mem_cons.mp hq with e | hq
  · rw [e]; exact List.mem_cons_self
  · obtain ⟨h1, h2⟩ := List.mem_filter.mp hq
    refine List.mem_cons_of_mem _ (List.mem_filter.mpr ⟨h1, ?_⟩)
    rw [h2, Bool.true_and]
    obtain ⟨v2, h3, h4⟩ := zpl_mem g ls q h1
    have h5 : ¬ q.1 = i + 1 := zno_mem (i + 1) ls hn (q.1, v2) h3
    by_cases hi : q.1 + 1 = i
    · have := zok_mem i ls ho (q.1, v2) h3 hi
      rw [h4, zv_cat]
      simp [hi, this, h5]
    · simp [hi, h5]
/-- the machine at pc, with these locals, this stack, this heap, k cells of n slots made so far, comes to its end -/
def Z (X : zX) (k n pc : Nat) (ls : zL) (st : List Value) (h : zH) : Prop := match X with
  | (p, l, e, R, s, m, args, below, meth, c, Q, g, nL) => ∀ (la : Array Slot) (H : Heap) (locs : List Loc), lv_has la nL (zpl g ls) → zP g h H → va_S (zA g) s.heap H locs → W p l e R s m args below meth c H locs k n Q (F0 m pc la (st.map (zv g)))
/-- what stands fast in a method's frame -/
def zF (zT : List Cond) (zN : List Cond) (X : zX) (cc : ByteArray) (own : String) : Prop := match X with
  | (p, l, e, R, s, m, args, below, meth, c, Q, g, nL) => p.tables.exec = Jvm.exec ∧ c.code = cc ∧ c.maxLocals = nL ∧ s.vm.findClass own = some m.cls ∧ (∀ w ∈ zT, w.before args s = true) ∧ (∀ w ∈ zN, va_Nw w s) ∧ va_K g.2.2.2.1 zCl (zTys g) s ∧ zRO g s s.heap ∧ g.1 ≤ s.heap.size ∧ meth.locks = false ∧ l.stackTraces = false ∧ zEx zStr zSt g s s.heap
/-- fewer locals -/
theorem Z.fewer {X : zX} {k n pc : Nat} {ls ls' : zL} {st : List Value} {h : zH} (hs : ∀ i v, zlk ls' i = some v → zlk ls i = some v) (K : Z X k n pc ls' st h) : Z X k n pc ls st h := by
  obtain ⟨p, l, e, R, s, m, args, below, meth, c, Q, g, nL⟩ := X
  intro la H locs hl hP hS
  refine K la H locs ⟨hl.1, hl.2.1, fun q hq => ?_⟩ hP hS
  have key : ∀ (l9 : zL) (q : Nat × Value), q ∈ zpl g l9 → ∃ v, zlk l9 q.1 = some v ∧ q.2 = zv g v := by
    intro l9
    induction l9 with
    | nil => intro q h; simp [zpl] at h
    | cons r t ih =>
      intro q h
      obtain ⟨j, w⟩ := r
      simp only [zpl] at h
      simp only [zlk]
      rcases List.mem_cons.mp h with h | h
      · rw [h]; simp only [Nat.beq_refl]; exact ⟨w, rfl, rfl⟩
      · obtain ⟨h1, h2⟩ := List.mem_filter.mp h
        obtain ⟨v, h3, h4⟩ := ih q h1
        have hne : ¬ q.1 = j := by simpa using h2
        have hb : Nat.beq j q.1 = false := by
          cases hb : Nat.beq j q.1 with
          | true => exact absurd (Nat.eq_of_beq_eq_true hb).symm hne
          | false => rfl
        rw [hb]
        exact ⟨v, h3, h4⟩
  obtain ⟨v, h1, h2⟩ := key ls' q hq
  rw [h2]
  exact zlk_at hl (hs q.1 v h1)
def zpick (ls : zL) : List Nat → zL
  | [] => []
  | i :: t => match zlk ls i with
    | some v => (i, v) :: zpick ls t
    | none => zpick ls t
theorem zpick_lk (ls : zL) : ∀ (ks : List Nat) (i : Nat) (v : Value), zlk (zpick ls ks) i = some v → zlk ls i = some v
  | [], i, v, h => by simp [zpick, zlk] at h
  | j :: t, i, v, h => by
    unfold zpick at h
    cases hj : zlk ls j with
    | none => rw [hj] at h; exact zpick_lk ls t i v h
    | some w =>
      rw [hj] at h
      simp only [zlk] at h
      cases hb : Nat.beq j i with
      | true =>
        rw [hb] at h
        rw [← Nat.eq_of_beq_eq_true hb, hj]
        exact h
      | false => rw [hb] at h; exact zpick_lk ls t i v h
/-- the locals at these places alone -/
theorem Z.keys {X : zX} {k n pc : Nat} {ls ls' : zL} {st : List Value} {h : zH} (ks : List Nat) (he : zpick ls ks = ls') (K : Z X k n pc ls' st h) : Z X k n pc ls st h := Z.fewer (fun i v q => zpick_lk ls ks i v (by rw [he]; exact q)) K
theorem Z.widen {X : zX} {k n k' n' pc : Nat} {ls : zL} {st : List Value} {h : zH} (h1 : k ≤ k') (h2 : n ≤ n') (K : Z X k' n' pc ls st h) : Z X k n pc ls st h := by
  obtain ⟨p, l, e, R, s, m, args, below, meth, c, Q, g, nL⟩ := X
  exact fun la H locs hl hP hS => W.widen h1 h2 (K la H locs hl hP hS)
section ZR
variable {zT zN : List Cond} {X : zX} {cc : ByteArray} {own : String} {k n pc : Nat} {ls : zL} {st : List Value} {h : zH}

theorem z_iconst (F : zF zT zN X cc own) {x : Int} {v : Int32} (hd : decode cc pc = .ok (.iconst x, 1)) (hv : Int32.ofInt x = v) (K : Z X k n (pc + 1) ls (.int v :: st) h) : Z X k n pc ls (st) h := by
  obtain ⟨p, l, e, R, s, m, args, below, meth, c, Q, g, nL⟩ := X
  exact fun la H locs hl hP hS => lv_iconst F.1 F.2.1 hd hv (K la H locs hl hP hS)
theorem z_bipush (F : zF zT zN X cc own) {x : Int} {v : Int32} (hd : decode cc pc = .ok (.bipush x, 2)) (hv : (Int8.ofInt x).toInt32 = v) (K : Z X k n (pc + 2) ls (.int v :: st) h) : Z X k n pc ls (st) h := by
  obtain ⟨p, l, e, R, s, m, args, below, meth, c, Q, g, nL⟩ := X
  exact fun la H locs hl hP hS => lv_bipush F.1 F.2.1 hd hv (K la H locs hl hP hS)
theorem z_sipush (F : zF zT zN X cc own) {x : Int} {v : Int32} (hd : decode cc pc = .ok (.sipush x, 3)) (hv : (Int16.ofInt x).toInt32 = v) (K : Z X k n (pc + 3) ls (.int v :: st) h) : Z X k n pc ls (st) h := by
  obtain ⟨p, l, e, R, s, m, args, below, meth, c, Q, g, nL⟩ := X
  exact fun la H locs hl hP hS => lv_sipush F.1 F.2.1 hd hv (K la H locs hl hP hS)
theorem z_lconst (F : zF zT zN X cc own) {x : Fin 2} {v : Int64} (hd : decode cc pc = .ok (.lconst x, 1)) (hv : Int64.ofNat (x : Nat) = v) (K : Z X k n (pc + 1) ls (.long v :: st) h) : Z X k n pc ls (st) h := by
  obtain ⟨p, l, e, R, s, m, args, below, meth, c, Q, g, nL⟩ := X
  exact fun la H locs hl hP hS => lv_lconst F.1 F.2.1 hd hv (K la H locs hl hP hS)
theorem z_iload_n (F : zF zT zN X cc own) {j : Fin 4} {i : Nat} {x : Int32} (hd : decode cc pc = .ok (.iload_n j, 1)) (hi : (j : Nat) = i) (hv : zlk ls i = some (.int x)) (K : Z X k n (pc + 1) ls (.int x :: st) h) : Z X k n pc ls st h := by
  obtain ⟨p, l, e, R, s, m, args, below, meth, c, Q, g, nL⟩ := X
  exact fun la H locs hl hP hS => lv_iload_n F.1 F.2.1 hd hi (zlk_at hl hv) (K la H locs hl hP hS)
theorem z_iload (F : zF zT zN X cc own) {i : Nat} {x : Int32} (hd : decode cc pc = .ok (.iload i, 2)) (hv : zlk ls i = some (.int x)) (K : Z X k n (pc + 2) ls (.int x :: st) h) : Z X k n pc ls st h := by
  obtain ⟨p, l, e, R, s, m, args, below, meth, c, Q, g, nL⟩ := X
  exact fun la H locs hl hP hS => lv_iload F.1 F.2.1 hd (zlk_at hl hv) (K la H locs hl hP hS)
theorem z_lload_n (F : zF zT zN X cc own) {j : Fin 4} {i : Nat} {x : Int64} (hd : decode cc pc = .ok (.lload_n j, 1)) (hi : (j : Nat) = i) (hv : zlk ls i = some (.long x)) (K : Z X k n (pc + 1) ls (.long x :: st) h) : Z X k n pc ls st h := by
  obtain ⟨p, l, e, R, s, m, args, below, meth, c, Q, g, nL⟩ := X
  exact fun la H locs hl hP hS => lv_lload_n F.1 F.2.1 hd hi (zlk_at hl hv) (K la H locs hl hP hS)
theorem z_lload (F : zF zT zN X cc own) {i : Nat} {x : Int64} (hd : decode cc pc = .ok (.lload i, 2)) (hv : zlk ls i = some (.long x)) (K : Z X k n (pc + 2) ls (.long x :: st) h) : Z X k n pc ls st h := by
  obtain ⟨p, l, e, R, s, m, args, below, meth, c, Q, g, nL⟩ := X
  exact fun la H locs hl hP hS => lv_lload F.1 F.2.1 hd (zlk_at hl hv) (K la H locs hl hP hS)
theorem z_aload_n (F : zF zT zN X cc own) {j : Fin 4} {i a : Nat} (hd : decode cc pc = .ok (.aload_n j, 1)) (hi : (j : Nat) = i) (hv : zlk ls i = some (.ref a)) (K : Z X k n (pc + 1) ls (.ref a :: st) h) : Z X k n pc ls st h := by
  obtain ⟨p, l, e, R, s, m, args, below, meth, c, Q, g, nL⟩ := X
  exact fun la H locs hl hP hS => lv_aload_n F.1 F.2.1 hd hi (zlk_at hl hv) (K la H locs hl hP hS)
theorem z_aload (F : zF zT zN X cc own) {i a : Nat} (hd : decode cc pc = .ok (.aload i, 2)) (hv : zlk ls i = some (.ref a)) (K : Z X k n (pc + 2) ls (.ref a :: st) h) : Z X k n pc ls st h := by
  obtain ⟨p, l, e, R, s, m, args, below, meth, c, Q, g, nL⟩ := X
  exact fun la H locs hl hP hS => lv_aload F.1 F.2.1 hd (zlk_at hl hv) (K la H locs hl hP hS)
theorem z_istore_n (F : zF zT zN X cc own) {j : Fin 4} {i : Nat} {x : Int32} (hd : decode cc pc = .ok (.istore_n j, 1)) (hi : (j : Nat) = i) (ho : zok i ls = true) (hn : Nat.blt i X.2.2.2.2.2.2.2.2.2.2.2.2 = true) (K : Z X k n (pc + 1) ((i, .int x) :: ls) st h) : Z X k n pc ls (.int x :: st) h := by
  obtain ⟨p, l, e, R, s, m, args, below, meth, c, Q, g, nL⟩ := X
  exact fun la H locs hl hP hS => lv_istore_n F.1 F.2.1 hd hi hl (Nat.le_of_ble_eq_true hn) rfl (fun la2 hl2 => K la2 H locs (zst1 hl2 ho) hP hS)
theorem z_istore (F : zF zT zN X cc own) {i : Nat} {x : Int32} (hd : decode cc pc = .ok (.istore i, 2)) (ho : zok i ls = true) (hn : Nat.blt i X.2.2.2.2.2.2.2.2.2.2.2.2 = true) (K : Z X k n (pc + 2) ((i, .int x) :: ls) st h) : Z X k n pc ls (.int x :: st) h := by
  obtain ⟨p, l, e, R, s, m, args, below, meth, c, Q, g, nL⟩ := X
  exact fun la H locs hl hP hS => lv_istore F.1 F.2.1 hd hl (Nat.le_of_ble_eq_true hn) rfl (fun la2 hl2 => K la2 H locs (zst1 hl2 ho) hP hS)
theorem z_astore_n (F : zF zT zN X cc own) {j : Fin 4} {i : Nat} {x : Nat} (hd : decode cc pc = .ok (.astore_n j, 1)) (hi : (j : Nat) = i) (ho : zok i ls = true) (hn : Nat.blt i X.2.2.2.2.2.2.2.2.2.2.2.2 = true) (K : Z X k n (pc + 1) ((i, .ref x) :: ls) st h) : Z X k n pc ls (.ref x :: st) h := by
  obtain ⟨p, l, e, R, s, m, args, below, meth, c, Q, g, nL⟩ := X
  exact fun la H locs hl hP hS => lv_astore_n F.1 F.2.1 hd hi hl (Nat.le_of_ble_eq_true hn) rfl (fun la2 hl2 => K la2 H locs (zst1 hl2 ho) hP hS)
theorem z_astore (F : zF zT zN X cc own) {i : Nat} {x : Nat} (hd : decode cc pc = .ok (.astore i, 2)) (ho : zok i ls = true) (hn : Nat.blt i X.2.2.2.2.2.2.2.2.2.2.2.2 = true) (K : Z X k n (pc + 2) ((i, .ref x) :: ls) st h) : Z X k n pc ls (.ref x :: st) h := by
  obtain ⟨p, l, e, R, s, m, args, below, meth, c, Q, g, nL⟩ := X
  exact fun la H locs hl hP hS => lv_astore F.1 F.2.1 hd hl (Nat.le_of_ble_eq_true hn) rfl (fun la2 hl2 => K la2 H locs (zst1 hl2 ho) hP hS)
theorem z_lstore_n (F : zF zT zN X cc own) {j : Fin 4} {i : Nat} {x : Int64} (hd : decode cc pc = .ok (.lstore_n j, 1)) (hi : (j : Nat) = i) (ho : zok i ls = true) (ho2 : zno (i + 1) ls = true) (hn : Nat.blt (i + 1) X.2.2.2.2.2.2.2.2.2.2.2.2 = true) (K : Z X k n (pc + 1) ((i, .long x) :: ls) st h) : Z X k n pc ls (.long x :: st) h := by
  obtain ⟨p, l, e, R, s, m, args, below, meth, c, Q, g, nL⟩ := X
  exact fun la H locs hl hP hS => lv_lstore_n F.1 F.2.1 hd hi hl (Nat.le_of_ble_eq_true hn) rfl (fun la2 hl2 => K la2 H locs (zst2 hl2 ho ho2) hP hS)
theorem z_lstore (F : zF zT zN X cc own) {i : Nat} {x : Int64} (hd : decode cc pc = .ok (.lstore i, 2)) (ho : zok i ls = true) (ho2 : zno (i + 1) ls = true) (hn : Nat.blt (i + 1) X.2.2.2.2.2.2.2.2.2.2.2.2 = true) (K : Z X k n (pc + 2) ((i, .long x) :: ls) st h) : Z X k n pc ls (.long x :: st) h := by
  obtain ⟨p, l, e, R, s, m, args, below, meth, c, Q, g, nL⟩ := X
  exact fun la H locs hl hP hS => lv_lstore F.1 F.2.1 hd hl (Nat.le_of_ble_eq_true hn) rfl (fun la2 hl2 => K la2 H locs (zst2 hl2 ho ho2) hP hS)
theorem zlk_place (g : zG) (ls : zL) (i : Nat) (v : Value) (hv : zlk ls i = some v) : ∃ q : Nat, (zpl g ls)[q]? = some (i, zv g v) := List.getElem?_of_mem (zlk_mem g ls i v hv)
theorem z_iinc (F : zF zT zN X cc own) {i : Nat} {z : Int} {x v : Int32} (hd : decode cc pc = .ok (.iinc i z, 3)) (hv : zlk ls i = some (.int x)) (he : x + Int32.ofInt z = v) (ho : zok i ls = true) (hn : Nat.blt i X.2.2.2.2.2.2.2.2.2.2.2.2 = true) (K : Z X k n (pc + 3) ((i, .int v) :: ls) st h) : Z X k n pc ls st h := by
  obtain ⟨p, l, e, R, s, m, args, below, meth, c, Q, g, nL⟩ := X
  intro la H locs hl hP hS
  obtain ⟨q, hq⟩ := zlk_place g ls i _ hv
  exact lv_iinc F.1 F.2.1 hd hl hq he (Nat.le_of_ble_eq_true hn) rfl (fun la2 hl2 => K la2 H locs (zst1 hl2 ho) hP hS)
theorem z_iadd (F : zF zT zN X cc own) {x y : Int32} (hd : decode cc pc = .ok (.iadd, 1)) (K : Z X k n (pc + 1) ls (.int (x + y) :: st) h) : Z X k n pc ls (.int y :: .int x :: st) h := by
  obtain ⟨p, l, e, R, s, m, args, below, meth, c, Q, g, nL⟩ := X
  exact fun la H locs hl hP hS => lv_iadd F.1 F.2.1 hd (K la H locs hl hP hS)
theorem z_isub (F : zF zT zN X cc own) {x y : Int32} (hd : decode cc pc = .ok (.isub, 1)) (K : Z X k n (pc + 1) ls (.int (x - y) :: st) h) : Z X k n pc ls (.int y :: .int x :: st) h := by
  obtain ⟨p, l, e, R, s, m, args, below, meth, c, Q, g, nL⟩ := X
  exact fun la H locs hl hP hS => lv_isub F.1 F.2.1 hd (K la H locs hl hP hS)
theorem z_imul (F : zF zT zN X cc own) {x y : Int32} (hd : decode cc pc = .ok (.imul, 1)) (K : Z X k n (pc + 1) ls (.int (x * y) :: st) h) : Z X k n pc ls (.int y :: .int x :: st) h := by
  obtain ⟨p, l, e, R, s, m, args, below, meth, c, Q, g, nL⟩ := X
  exact fun la H locs hl hP hS => lv_imul F.1 F.2.1 hd (K la H locs hl hP hS)
theorem z_iand (F : zF zT zN X cc own) {x y : Int32} (hd : decode cc pc = .ok (.iand, 1)) (K : Z X k n (pc + 1) ls (.int (x &&& y) :: st) h) : Z X k n pc ls (.int y :: .int x :: st) h := by
  obtain ⟨p, l, e, R, s, m, args, below, meth, c, Q, g, nL⟩ := X
  exact fun la H locs hl hP hS => lv_iand F.1 F.2.1 hd (K la H locs hl hP hS)
theorem z_ior (F : zF zT zN X cc own) {x y : Int32} (hd : decode cc pc = .ok (.ior, 1)) (K : Z X k n (pc + 1) ls (.int (x ||| y) :: st) h) : Z X k n pc ls (.int y :: .int x :: st) h := by
  obtain ⟨p, l, e, R, s, m, args, below, meth, c, Q, g, nL⟩ := X
  exact fun la H locs hl hP hS => lv_ior F.1 F.2.1 hd (K la H locs hl hP hS)
theorem z_ixor (F : zF zT zN X cc own) {x y : Int32} (hd : decode cc pc = .ok (.ixor, 1)) (K : Z X k n (pc + 1) ls (.int (x ^^^ y) :: st) h) : Z X k n pc ls (.int y :: .int x :: st) h := by
  obtain ⟨p, l, e, R, s, m, args, below, meth, c, Q, g, nL⟩ := X
  exact fun la H locs hl hP hS => lv_ixor F.1 F.2.1 hd (K la H locs hl hP hS)
theorem z_ishl (F : zF zT zN X cc own) {x y : Int32} (hd : decode cc pc = .ok (.ishl, 1)) (K : Z X k n (pc + 1) ls (.int (x <<< (y &&& 31)) :: st) h) : Z X k n pc ls (.int y :: .int x :: st) h := by
  obtain ⟨p, l, e, R, s, m, args, below, meth, c, Q, g, nL⟩ := X
  exact fun la H locs hl hP hS => lv_ishl F.1 F.2.1 hd (K la H locs hl hP hS)
theorem z_ishr (F : zF zT zN X cc own) {x y : Int32} (hd : decode cc pc = .ok (.ishr, 1)) (K : Z X k n (pc + 1) ls (.int (x >>> (y &&& 31)) :: st) h) : Z X k n pc ls (.int y :: .int x :: st) h := by
  obtain ⟨p, l, e, R, s, m, args, below, meth, c, Q, g, nL⟩ := X
  exact fun la H locs hl hP hS => lv_ishr F.1 F.2.1 hd (K la H locs hl hP hS)
theorem z_idiv (F : zF zT zN X cc own) {x y : Int32} (hd : decode cc pc = .ok (.idiv, 1)) (hne : ¬ y = 0) (K : Z X k n (pc + 1) ls (.int (x / y) :: st) h) : Z X k n pc ls (.int y :: .int x :: st) h := by
  obtain ⟨p, l, e, R, s, m, args, below, meth, c, Q, g, nL⟩ := X
  exact fun la H locs hl hP hS => lv_idiv F.1 F.2.1 hd hne (K la H locs hl hP hS)
theorem z_irem (F : zF zT zN X cc own) {x y : Int32} (hd : decode cc pc = .ok (.irem, 1)) (hne : ¬ y = 0) (K : Z X k n (pc + 1) ls (.int (x - x / y * y) :: st) h) : Z X k n pc ls (.int y :: .int x :: st) h := by
  obtain ⟨p, l, e, R, s, m, args, below, meth, c, Q, g, nL⟩ := X
  exact fun la H locs hl hP hS => lv_irem F.1 F.2.1 hd hne (K la H locs hl hP hS)
theorem z_iushr (F : zF zT zN X cc own) {x y v : Int32} (hd : decode cc pc = .ok (.iushr, 1)) (hv : (x.toUInt32 >>> (y.toUInt32 &&& Int32.toUInt32 31)).toInt32 = v) (K : Z X k n (pc + 1) ls (.int v :: st) h) : Z X k n pc ls (.int y :: .int x :: st) h := by
  obtain ⟨p, l, e, R, s, m, args, below, meth, c, Q, g, nL⟩ := X
  exact fun la H locs hl hP hS => lv_iushr F.1 F.2.1 hd hv (K la H locs hl hP hS)
theorem z_ineg (F : zF zT zN X cc own) {x : Int32} (hd : decode cc pc = .ok (.ineg, 1)) (K : Z X k n (pc + 1) ls (.int (-x) :: st) h) : Z X k n pc ls (.int x :: st) h := by
  obtain ⟨p, l, e, R, s, m, args, below, meth, c, Q, g, nL⟩ := X
  exact fun la H locs hl hP hS => lv_ineg F.1 F.2.1 hd (K la H locs hl hP hS)
theorem z_ladd (F : zF zT zN X cc own) {x y : Int64} (hd : decode cc pc = .ok (.ladd, 1)) (K : Z X k n (pc + 1) ls (.long (x + y) :: st) h) : Z X k n pc ls (.long y :: .long x :: st) h := by
  obtain ⟨p, l, e, R, s, m, args, below, meth, c, Q, g, nL⟩ := X
  exact fun la H locs hl hP hS => lv_ladd F.1 F.2.1 hd (K la H locs hl hP hS)
theorem z_lsub (F : zF zT zN X cc own) {x y : Int64} (hd : decode cc pc = .ok (.lsub, 1)) (K : Z X k n (pc + 1) ls (.long (x - y) :: st) h) : Z X k n pc ls (.long y :: .long x :: st) h := by
  obtain ⟨p, l, e, R, s, m, args, below, meth, c, Q, g, nL⟩ := X
  exact fun la H locs hl hP hS => lv_lsub F.1 F.2.1 hd (K la H locs hl hP hS)
theorem z_lmul (F : zF zT zN X cc own) {x y : Int64} (hd : decode cc pc = .ok (.lmul, 1)) (K : Z X k n (pc + 1) ls (.long (x * y) :: st) h) : Z X k n pc ls (.long y :: .long x :: st) h := by
  obtain ⟨p, l, e, R, s, m, args, below, meth, c, Q, g, nL⟩ := X
  exact fun la H locs hl hP hS => lv_lmul F.1 F.2.1 hd (K la H locs hl hP hS)
theorem z_land (F : zF zT zN X cc own) {x y : Int64} (hd : decode cc pc = .ok (.land, 1)) (K : Z X k n (pc + 1) ls (.long (x &&& y) :: st) h) : Z X k n pc ls (.long y :: .long x :: st) h := by
  obtain ⟨p, l, e, R, s, m, args, below, meth, c, Q, g, nL⟩ := X
  exact fun la H locs hl hP hS => lv_land F.1 F.2.1 hd (K la H locs hl hP hS)
theorem z_lor (F : zF zT zN X cc own) {x y : Int64} (hd : decode cc pc = .ok (.lor, 1)) (K : Z X k n (pc + 1) ls (.long (x ||| y) :: st) h) : Z X k n pc ls (.long y :: .long x :: st) h := by
  obtain ⟨p, l, e, R, s, m, args, below, meth, c, Q, g, nL⟩ := X
  exact fun la H locs hl hP hS => lv_lor F.1 F.2.1 hd (K la H locs hl hP hS)
theorem z_lxor (F : zF zT zN X cc own) {x y : Int64} (hd : decode cc pc = .ok (.lxor, 1)) (K : Z X k n (pc + 1) ls (.long (x ^^^ y) :: st) h) : Z X k n pc ls (.long y :: .long x :: st) h := by
  obtain ⟨p, l, e, R, s, m, args, below, meth, c, Q, g, nL⟩ := X
  exact fun la H locs hl hP hS => lv_lxor F.1 F.2.1 hd (K la H locs hl hP hS)
theorem z_lneg (F : zF zT zN X cc own) {x : Int64} (hd : decode cc pc = .ok (.lneg, 1)) (K : Z X k n (pc + 1) ls (.long (-x) :: st) h) : Z X k n pc ls (.long x :: st) h := by
  obtain ⟨p, l, e, R, s, m, args, below, meth, c, Q, g, nL⟩ := X
  exact fun la H locs hl hP hS => lv_lneg F.1 F.2.1 hd (K la H locs hl hP hS)
theorem z_lshl (F : zF zT zN X cc own) {x v : Int64} {y : Int32} (hd : decode cc pc = .ok (.lshl, 1)) (hv : x <<< (y.toInt64 &&& 63) = v) (K : Z X k n (pc + 1) ls (.long v :: st) h) : Z X k n pc ls (.int y :: .long x :: st) h := by
  obtain ⟨p, l, e, R, s, m, args, below, meth, c, Q, g, nL⟩ := X
  exact fun la H locs hl hP hS => lv_lshl F.1 F.2.1 hd hv (K la H locs hl hP hS)
theorem z_lshr (F : zF zT zN X cc own) {x v : Int64} {y : Int32} (hd : decode cc pc = .ok (.lshr, 1)) (hv : x >>> (y.toInt64 &&& 63) = v) (K : Z X k n (pc + 1) ls (.long v :: st) h) : Z X k n pc ls (.int y :: .long x :: st) h := by
  obtain ⟨p, l, e, R, s, m, args, below, meth, c, Q, g, nL⟩ := X
  exact fun la H locs hl hP hS => lv_lshr F.1 F.2.1 hd hv (K la H locs hl hP hS)
theorem z_lushr (F : zF zT zN X cc own) {x v : Int64} {y : Int32} (hd : decode cc pc = .ok (.lushr, 1)) (hv : (x.toUInt64 >>> (y.toInt64.toUInt64 &&& Int64.toUInt64 63)).toInt64 = v) (K : Z X k n (pc + 1) ls (.long v :: st) h) : Z X k n pc ls (.int y :: .long x :: st) h := by
  obtain ⟨p, l, e, R, s, m, args, below, meth, c, Q, g, nL⟩ := X
  exact fun la H locs hl hP hS => lv_lushr F.1 F.2.1 hd hv (K la H locs hl hP hS)
theorem z_i2l (F : zF zT zN X cc own) {x : Int32} {v : Int64} (hd : decode cc pc = .ok (.i2l, 1)) (hv : x.toInt64 = v) (K : Z X k n (pc + 1) ls (.long v :: st) h) : Z X k n pc ls (.int x :: st) h := by
  obtain ⟨p, l, e, R, s, m, args, below, meth, c, Q, g, nL⟩ := X
  exact fun la H locs hl hP hS => lv_i2l F.1 F.2.1 hd hv (K la H locs hl hP hS)
theorem z_l2i (F : zF zT zN X cc own) {x : Int64} {v : Int32} (hd : decode cc pc = .ok (.l2i, 1)) (hv : x.toInt32 = v) (K : Z X k n (pc + 1) ls (.int v :: st) h) : Z X k n pc ls (.long x :: st) h := by
  obtain ⟨p, l, e, R, s, m, args, below, meth, c, Q, g, nL⟩ := X
  exact fun la H locs hl hP hS => lv_l2i F.1 F.2.1 hd hv (K la H locs hl hP hS)
theorem z_i2b (F : zF zT zN X cc own) {x v : Int32} (hd : decode cc pc = .ok (.i2b, 1)) (hv : x.toInt8.toInt32 = v) (K : Z X k n (pc + 1) ls (.int v :: st) h) : Z X k n pc ls (.int x :: st) h := by
  obtain ⟨p, l, e, R, s, m, args, below, meth, c, Q, g, nL⟩ := X
  exact fun la H locs hl hP hS => lv_i2b F.1 F.2.1 hd hv (K la H locs hl hP hS)
theorem z_i2c (F : zF zT zN X cc own) {x v : Int32} (hd : decode cc pc = .ok (.i2c, 1)) (hv : (x.toUInt32 % 65536).toInt32 = v) (K : Z X k n (pc + 1) ls (.int v :: st) h) : Z X k n pc ls (.int x :: st) h := by
  obtain ⟨p, l, e, R, s, m, args, below, meth, c, Q, g, nL⟩ := X
  exact fun la H locs hl hP hS => lv_i2c F.1 F.2.1 hd hv (K la H locs hl hP hS)
theorem z_lcmp (F : zF zT zN X cc own) {x y : Int64} (hd : decode cc pc = .ok (.lcmp, 1)) (K : Z X k n (pc + 1) ls (.int (lg_cmp x y) :: st) h) : Z X k n pc ls (.long y :: .long x :: st) h := by
  obtain ⟨p, l, e, R, s, m, args, below, meth, c, Q, g, nL⟩ := X
  exact fun la H locs hl hP hS => W.lcmp F.1 F.2.1 hd (K la H locs hl hP hS)
theorem z_i2d (F : zF zT zN X cc own) {x : Int32} (hd : decode cc pc = .ok (.i2d, 1)) (K : Z X k n (pc + 1) ls (.double (FP.i2d x) :: st) h) : Z X k n pc ls (.int x :: st) h := by
  obtain ⟨p, l, e, R, s, m, args, below, meth, c, Q, g, nL⟩ := X
  exact fun la H locs hl hP hS => lv_i2d F.1 F.2.1 hd (K la H locs hl hP hS)
theorem z_i2f (F : zF zT zN X cc own) {x : Int32} (hd : decode cc pc = .ok (.i2f, 1)) (K : Z X k n (pc + 1) ls (.float (FP.i2f x) :: st) h) : Z X k n pc ls (.int x :: st) h := by
  obtain ⟨p, l, e, R, s, m, args, below, meth, c, Q, g, nL⟩ := X
  exact fun la H locs hl hP hS => lv_i2f F.1 F.2.1 hd (K la H locs hl hP hS)
theorem z_ddiv (F : zF zT zN X cc own) {x y : UInt64} (hd : decode cc pc = .ok (.ddiv, 1)) (hne : vf_n64 (FP.ddiv x y)) (K : Z X k n (pc + 1) ls (.double (FP.ddiv x y) :: st) h) : Z X k n pc ls (.double y :: .double x :: st) h := by
  obtain ⟨p, l, e, R, s, m, args, below, meth, c, Q, g, nL⟩ := X
  exact fun la H locs hl hP hS => lv_ddiv F.1 F.2.1 hd hne (K la H locs hl hP hS)
theorem z_fdiv (F : zF zT zN X cc own) {x y : UInt32} (hd : decode cc pc = .ok (.fdiv, 1)) (hne : vf_n32 (FP.fdiv x y)) (K : Z X k n (pc + 1) ls (.float (FP.fdiv x y) :: st) h) : Z X k n pc ls (.float y :: .float x :: st) h := by
  obtain ⟨p, l, e, R, s, m, args, below, meth, c, Q, g, nL⟩ := X
  exact fun la H locs hl hP hS => lv_fdiv F.1 F.2.1 hd hne (K la H locs hl hP hS)
theorem z_dup (F : zF zT zN X cc own) {va : Value} (hd : decode cc pc = .ok (.dup, 1)) (h1 : va.category = 1) (K : Z X k n (pc + 1) ls (va :: va :: st) h) : Z X k n pc ls (va :: st) h := by
  obtain ⟨p, l, e, R, s, m, args, below, meth, c, Q, g, nL⟩ := X
  exact fun la H locs hl hP hS => lv_dup F.1 F.2.1 hd ((zv_cat _ _).trans h1) (K la H locs hl hP hS)
theorem z_pop (F : zF zT zN X cc own) {va : Value} (hd : decode cc pc = .ok (.pop, 1)) (h1 : va.category = 1) (K : Z X k n (pc + 1) ls (st) h) : Z X k n pc ls (va :: st) h := by
  obtain ⟨p, l, e, R, s, m, args, below, meth, c, Q, g, nL⟩ := X
  exact fun la H locs hl hP hS => lv_pop F.1 F.2.1 hd ((zv_cat _ _).trans h1) (K la H locs hl hP hS)
theorem z_dup_x1 (F : zF zT zN X cc own) {va vb : Value} (hd : decode cc pc = .ok (.dup_x1, 1)) (h1 : va.category = 1) (h2 : vb.category = 1) (K : Z X k n (pc + 1) ls (va :: vb :: va :: st) h) : Z X k n pc ls (va :: vb :: st) h := by
  obtain ⟨p, l, e, R, s, m, args, below, meth, c, Q, g, nL⟩ := X
  exact fun la H locs hl hP hS => lv_dup_x1 F.1 F.2.1 hd ((zv_cat _ _).trans h1) ((zv_cat _ _).trans h2) (K la H locs hl hP hS)
theorem z_dup2_11 (F : zF zT zN X cc own) {va vb : Value} (hd : decode cc pc = .ok (.dup2, 1)) (h1 : va.category = 1) (h2 : vb.category = 1) (K : Z X k n (pc + 1) ls (va :: vb :: va :: vb :: st) h) : Z X k n pc ls (va :: vb :: st) h := by
  obtain ⟨p, l, e, R, s, m, args, below, meth, c, Q, g, nL⟩ := X
  exact fun la H locs hl hP hS => lv_dup2_11 F.1 F.2.1 hd ((zv_cat _ _).trans h1) ((zv_cat _ _).trans h2) (K la H locs hl hP hS)
theorem z_dup2_2 (F : zF zT zN X cc own) {va : Value} (hd : decode cc pc = .ok (.dup2, 1)) (h1 : va.category = 2) (K : Z X k n (pc + 1) ls (va :: va :: st) h) : Z X k n pc ls (va :: st) h := by
  obtain ⟨p, l, e, R, s, m, args, below, meth, c, Q, g, nL⟩ := X
  exact fun la H locs hl hP hS => lv_dup2_2 F.1 F.2.1 hd ((zv_cat _ _).trans h1) (K la H locs hl hP hS)
theorem z_if_eq (F : zF zT zN X cc own) {x : Int32} {off : Int} {tgt : Nat} (hd : decode cc pc = .ok (.ifCond .eq off, 3)) (ht : (pc : Int) + off = (tgt : Int)) (KT : x = 0 → Z X k n tgt ls st h) (KF : ¬ x = 0 → Z X k n (pc + 3) ls st h) : Z X k n pc ls (.int x :: st) h := by
  obtain ⟨p, l, e, R, s, m, args, below, meth, c, Q, g, nL⟩ := X
  exact fun la H locs hl hP hS => lv_if_eq F.1 F.2.1 hd ht (fun q => KT q la H locs hl hP hS) (fun q => KF q la H locs hl hP hS)
theorem z_icmp_eq (F : zF zT zN X cc own) {x y : Int32} {off : Int} {tgt : Nat} (hd : decode cc pc = .ok (.if_icmp .eq off, 3)) (ht : (pc : Int) + off = (tgt : Int)) (KT : x = y → Z X k n tgt ls st h) (KF : ¬ x = y → Z X k n (pc + 3) ls st h) : Z X k n pc ls (.int y :: .int x :: st) h := by
  obtain ⟨p, l, e, R, s, m, args, below, meth, c, Q, g, nL⟩ := X
  exact fun la H locs hl hP hS => lv_icmp_eq F.1 F.2.1 hd ht (fun q => KT q la H locs hl hP hS) (fun q => KF q la H locs hl hP hS)
theorem z_if_ne (F : zF zT zN X cc own) {x : Int32} {off : Int} {tgt : Nat} (hd : decode cc pc = .ok (.ifCond .ne off, 3)) (ht : (pc : Int) + off = (tgt : Int)) (KT : ¬ x = 0 → Z X k n tgt ls st h) (KF : x = 0 → Z X k n (pc + 3) ls st h) : Z X k n pc ls (.int x :: st) h := by
  obtain ⟨p, l, e, R, s, m, args, below, meth, c, Q, g, nL⟩ := X
  exact fun la H locs hl hP hS => lv_if_ne F.1 F.2.1 hd ht (fun q => KT q la H locs hl hP hS) (fun q => KF q la H locs hl hP hS)
theorem z_icmp_ne (F : zF zT zN X cc own) {x y : Int32} {off : Int} {tgt : Nat} (hd : decode cc pc = .ok (.if_icmp .ne off, 3)) (ht : (pc : Int) + off = (tgt : Int)) (KT : ¬ x = y → Z X k n tgt ls st h) (KF : x = y → Z X k n (pc + 3) ls st h) : Z X k n pc ls (.int y :: .int x :: st) h := by
  obtain ⟨p, l, e, R, s, m, args, below, meth, c, Q, g, nL⟩ := X
  exact fun la H locs hl hP hS => lv_icmp_ne F.1 F.2.1 hd ht (fun q => KT q la H locs hl hP hS) (fun q => KF q la H locs hl hP hS)
theorem z_if_lt (F : zF zT zN X cc own) {x : Int32} {off : Int} {tgt : Nat} (hd : decode cc pc = .ok (.ifCond .lt off, 3)) (ht : (pc : Int) + off = (tgt : Int)) (KT : x < 0 → Z X k n tgt ls st h) (KF : ¬ x < 0 → Z X k n (pc + 3) ls st h) : Z X k n pc ls (.int x :: st) h := by
  obtain ⟨p, l, e, R, s, m, args, below, meth, c, Q, g, nL⟩ := X
  exact fun la H locs hl hP hS => lv_if_lt F.1 F.2.1 hd ht (fun q => KT q la H locs hl hP hS) (fun q => KF q la H locs hl hP hS)
theorem z_icmp_lt (F : zF zT zN X cc own) {x y : Int32} {off : Int} {tgt : Nat} (hd : decode cc pc = .ok (.if_icmp .lt off, 3)) (ht : (pc : Int) + off = (tgt : Int)) (KT : x < y → Z X k n tgt ls st h) (KF : ¬ x < y → Z X k n (pc + 3) ls st h) : Z X k n pc ls (.int y :: .int x :: st) h := by
  obtain ⟨p, l, e, R, s, m, args, below, meth, c, Q, g, nL⟩ := X
  exact fun la H locs hl hP hS => lv_icmp_lt F.1 F.2.1 hd ht (fun q => KT q la H locs hl hP hS) (fun q => KF q la H locs hl hP hS)
theorem z_if_ge (F : zF zT zN X cc own) {x : Int32} {off : Int} {tgt : Nat} (hd : decode cc pc = .ok (.ifCond .ge off, 3)) (ht : (pc : Int) + off = (tgt : Int)) (KT : 0 ≤ x → Z X k n tgt ls st h) (KF : ¬ 0 ≤ x → Z X k n (pc + 3) ls st h) : Z X k n pc ls (.int x :: st) h := by
  obtain ⟨p, l, e, R, s, m, args, below, meth, c, Q, g, nL⟩ := X
  exact fun la H locs hl hP hS => lv_if_ge F.1 F.2.1 hd ht (fun q => KT q la H locs hl hP hS) (fun q => KF q la H locs hl hP hS)
theorem z_icmp_ge (F : zF zT zN X cc own) {x y : Int32} {off : Int} {tgt : Nat} (hd : decode cc pc = .ok (.if_icmp .ge off, 3)) (ht : (pc : Int) + off = (tgt : Int)) (KT : y ≤ x → Z X k n tgt ls st h) (KF : ¬ y ≤ x → Z X k n (pc + 3) ls st h) : Z X k n pc ls (.int y :: .int x :: st) h := by
  obtain ⟨p, l, e, R, s, m, args, below, meth, c, Q, g, nL⟩ := X
  exact fun la H locs hl hP hS => lv_icmp_ge F.1 F.2.1 hd ht (fun q => KT q la H locs hl hP hS) (fun q => KF q la H locs hl hP hS)
theorem z_if_gt (F : zF zT zN X cc own) {x : Int32} {off : Int} {tgt : Nat} (hd : decode cc pc = .ok (.ifCond .gt off, 3)) (ht : (pc : Int) + off = (tgt : Int)) (KT : 0 < x → Z X k n tgt ls st h) (KF : ¬ 0 < x → Z X k n (pc + 3) ls st h) : Z X k n pc ls (.int x :: st) h := by
  obtain ⟨p, l, e, R, s, m, args, below, meth, c, Q, g, nL⟩ := X
  exact fun la H locs hl hP hS => lv_if_gt F.1 F.2.1 hd ht (fun q => KT q la H locs hl hP hS) (fun q => KF q la H locs hl hP hS)
theorem z_icmp_gt (F : zF zT zN X cc own) {x y : Int32} {off : Int} {tgt : Nat} (hd : decode cc pc = .ok (.if_icmp .gt off, 3)) (ht : (pc : Int) + off = (tgt : Int)) (KT : y < x → Z X k n tgt ls st h) (KF : ¬ y < x → Z X k n (pc + 3) ls st h) : Z X k n pc ls (.int y :: .int x :: st) h := by
  obtain ⟨p, l, e, R, s, m, args, below, meth, c, Q, g, nL⟩ := X
  exact fun la H locs hl hP hS => lv_icmp_gt F.1 F.2.1 hd ht (fun q => KT q la H locs hl hP hS) (fun q => KF q la H locs hl hP hS)
theorem z_if_le (F : zF zT zN X cc own) {x : Int32} {off : Int} {tgt : Nat} (hd : decode cc pc = .ok (.ifCond .le off, 3)) (ht : (pc : Int) + off = (tgt : Int)) (KT : x ≤ 0 → Z X k n tgt ls st h) (KF : ¬ x ≤ 0 → Z X k n (pc + 3) ls st h) : Z X k n pc ls (.int x :: st) h := by
  obtain ⟨p, l, e, R, s, m, args, below, meth, c, Q, g, nL⟩ := X
  exact fun la H locs hl hP hS => lv_if_le F.1 F.2.1 hd ht (fun q => KT q la H locs hl hP hS) (fun q => KF q la H locs hl hP hS)
theorem z_icmp_le (F : zF zT zN X cc own) {x y : Int32} {off : Int} {tgt : Nat} (hd : decode cc pc = .ok (.if_icmp .le off, 3)) (ht : (pc : Int) + off = (tgt : Int)) (KT : x ≤ y → Z X k n tgt ls st h) (KF : ¬ x ≤ y → Z X k n (pc + 3) ls st h) : Z X k n pc ls (.int y :: .int x :: st) h := by
  obtain ⟨p, l, e, R, s, m, args, below, meth, c, Q, g, nL⟩ := X
  exact fun la H locs hl hP hS => lv_icmp_le F.1 F.2.1 hd ht (fun q => KT q la H locs hl hP hS) (fun q => KF q la H locs hl hP hS)
theorem z_goto (F : zF zT zN X cc own) {off : Int} {tgt : Nat} (hd : decode cc pc = .ok (.goto off, 3)) (ht : (pc : Int) + off = (tgt : Int)) (K : Z X k n tgt ls st h) : Z X k n pc ls st h := by
  obtain ⟨p, l, e, R, s, m, args, below, meth, c, Q, g, nL⟩ := X
  exact fun la H locs hl hP hS => lv_goto F.1 F.2.1 hd ht (K la H locs hl hP hS)
theorem z_tableOut (F : zF zT zN X cc own) {dflt lo hi : Int} {offs : Array Int} {len : Nat} {x : Int32} {tgt : Nat} (hd : decode cc pc = .ok (.tableswitch dflt lo hi offs, len)) (hx : x.toInt < lo ∨ hi < x.toInt) (ht : (pc : Int) + dflt = (tgt : Int)) (K : Z X k n tgt ls st h) : Z X k n pc ls (.int x :: st) h := by
  obtain ⟨p, l, e, R, s, m, args, below, meth, c, Q, g, nL⟩ := X
  exact fun la H locs hl hP hS => lv_tableOut F.1 F.2.1 hd hx ht (K la H locs hl hP hS)
theorem z_tableIn (F : zF zT zN X cc own) {dflt lo hi : Int} {offs : Array Int} {len : Nat} {x : Int32} {off : Int} {tgt : Nat} (hd : decode cc pc = .ok (.tableswitch dflt lo hi offs, len)) (h1 : ¬ x.toInt < lo) (h2 : ¬ hi < x.toInt) (ho : offs[(x.toInt - lo).toNat]? = some off) (ht : (pc : Int) + off = (tgt : Int)) (K : Z X k n tgt ls st h) : Z X k n pc ls (.int x :: st) h := by
  obtain ⟨p, l, e, R, s, m, args, below, meth, c, Q, g, nL⟩ := X
  exact fun la H locs hl hP hS => lv_tableIn F.1 F.2.1 hd h1 h2 ho ht (K la H locs hl hP hS)
theorem z_ldc (F : zF zT zN X cc own) {index : Nat} {v : Int32} (hd : decode cc pc = .ok (.ldc index, 2)) (hw : Cond.constant own index v ∈ zT) (K : Z X k n (pc + 2) ls (.int v :: st) h) : Z X k n pc ls st h := by
  obtain ⟨p, l, e, R, s, m, args, below, meth, c, Q, g, nL⟩ := X
  exact fun la H locs hl hP hS => lv_ldc F.1 F.2.1 F.2.2.2.1 (F.2.2.2.2.1 _ hw) hd (K la H locs hl hP hS)
theorem z_ldcw (F : zF zT zN X cc own) {index : Nat} {v : Int32} (hd : decode cc pc = .ok (.ldc_w index, 3)) (hw : Cond.constant own index v ∈ zT) (K : Z X k n (pc + 3) ls (.int v :: st) h) : Z X k n pc ls st h := by
  obtain ⟨p, l, e, R, s, m, args, below, meth, c, Q, g, nL⟩ := X
  exact fun la H locs hl hP hS => lv_ldcw F.1 F.2.1 F.2.2.2.1 (F.2.2.2.2.1 _ hw) hd (K la H locs hl hP hS)
theorem z_ldc2 (F : zF zT zN X cc own) {index : Nat} {v : Int64} (hd : decode cc pc = .ok (.ldc2_w index, 3)) (hw : Cond.constantLong own index v ∈ zT) (K : Z X k n (pc + 3) ls (.long v :: st) h) : Z X k n pc ls st h := by
  obtain ⟨p, l, e, R, s, m, args, below, meth, c, Q, g, nL⟩ := X
  exact fun la H locs hl hP hS => lv_ldc2 F.1 F.2.1 F.2.2.2.1 (F.2.2.2.2.1 _ hw) hd (K la H locs hl hP hS)
end ZR
