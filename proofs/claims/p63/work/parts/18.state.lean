/-! what a state is: a light, a ship, a coast; the cells that hold them -/
/-- cell, range, period, phase, sightings -/
abbrev zLt : Type := Nat × Nat × Nat × Nat × Nat
/-- cell, draught, goal, wrecked, dark minutes -/
abbrev zSp : Type := Nat × Nat × Option Nat × Bool × Nat
/-- depths, lights, ships, their numbers, (minute, sightings, removed sightings, wrecks, salvage) -/
abbrev zCo : Type := (Nat → Nat) × (Nat → zLt) × (Nat → zSp) × (Nat × Nat) × (Nat × Nat × Nat × Nat × Nat)
def zar (n : Nat) (f : Nat → Value) : List Value := (List.range n).map f
theorem zar_len (n : Nat) (f : Nat → Value) : (zar n f).length = n := by simp [zar]
theorem zar_get {n k : Nat} {f : Nat → Value} (h : k < n) : (zar n f)[k]? = some (f k) := by simp [zar, h]
def zup {α : Type} (f : Nat → α) (i : Nat) (v : α) : Nat → α := fun j => if j = i then v else f j
theorem zup_s {α : Type} (f : Nat → α) (i : Nat) (v : α) : zup f i v i = v := if_pos rfl
theorem zup_n {α : Type} {f : Nat → α} {i j : Nat} {v : α} (h : j ≠ i) : zup f i v j = f j := if_neg h
theorem zar_set {n k : Nat} {f : Nat → Value} {v : Value} : (zar n f).set k v = zar n (zup f k v) := by
  apply List.ext_getElem?
  intro j
  rw [List.getElem?_set]
  unfold zar zup
  by_cases hj : j < n
  · by_cases hk : k = j
    · subst hk; simp [hj]
    · rw [if_neg hk]
      simp [hj, Ne.symm hk]
  · split
    · rename_i hk; subst hk; simp [hj]
    · simp [hj]
theorem zar_congr {n : Nat} {f g : Nat → Value} (h : ∀ k, k < n → f k = g k) : zar n f = zar n g := List.map_congr_left fun k hk => h k (List.mem_range.mp hk)
theorem zar_rep (n : Nat) (v : Value) : List.replicate n v = zar n (fun _ => v) := by
  apply List.ext_getElem?
  intro j
  simp only [zar, List.getElem?_replicate, List.getElem?_map]
  by_cases hj : j < n
  · simp [hj]
  · simp [hj]
theorem zset_same {h : zH} {a : Nat} {c c0 : zC} (hc : h[a]? = some c0) : (h.set a c)[a]? = some c := List.getElem?_set_self (List.getElem?_eq_some_iff.mp hc).1
theorem zset_ne {h : zH} {a b : Nat} {c : zC} (hn : a ≠ b) : (h.set a c)[b]? = h[b]? := List.getElem?_set_ne hn
/-- a cell that isn't the one written -/
theorem zkeep {h : zH} {a b : Nat} {c d : zC} (hc : h[b]? = some d) (hn : a ≠ b) : (h.set a c)[b]? = some d := by rw [zset_ne hn]; exact hc
theorem zapp {h j : zH} {a : Nat} {c : zC} (hc : h[a]? = some c) : (h ++ j)[a]? = some c := by rw [List.getElem?_append_left (List.getElem?_eq_some_iff.mp hc).1]; exact hc
def zLf (l : zLt) : List Value := [.int (iI l.1), .int (iI l.2.1), .int (iI l.2.2.1), .int (iI l.2.2.2.1), .int (iI l.2.2.2.2)]
def zGo (o : Option Nat) : Int := match o with
  | none => -1
  | some c => c
def zBo (b : Bool) : Int := match b with
  | true => 1
  | false => 0
theorem zBo_b (p : Bool) : -2147483648 ≤ zBo p ∧ zBo p < 2147483648 := by cases p <;> decide
theorem zBo_n {p : Bool} : (¬ zBo p = 0) = (p = true) := by cases p <;> simp [zBo]
theorem zBo_z {p : Bool} : (zBo p = 0) = (p = false) := by cases p <;> simp [zBo]
theorem zBo_nar (p : Bool) : narrow .boolean (.int (iI (zBo p))) = .int (iI (zBo p)) := by cases p <;> rfl
theorem zBo_fit (p : Bool) : zfit .boolean (.int (iI (zBo p))) := by cases p <;> exact ⟨rfl, rfl⟩
theorem zBo_if (P : Prop) [Decidable P] : zBo (decide P) = if P then 1 else 0 := by by_cases h : P <;> simp [zBo, h]
def zSf (s : zSp) : List Value := [.int (iI s.1), .int (iI s.2.1), .int (iI (zGo s.2.2.1)), .int (iI (zBo s.2.2.2.1)), .int (iI s.2.2.2.2)]
def zCf (b : Nat) (C : zCo) : List Value := [.ref (b + 1), .ref (b + 2), .ref (b + 3), .int (iI C.2.2.2.1.1), .int (iI C.2.2.2.1.2), .int (iI C.2.2.2.2.1), .int (iI C.2.2.2.2.2.1), .int (iI C.2.2.2.2.2.2.1), .int (iI C.2.2.2.2.2.2.2.1), .int (iI C.2.2.2.2.2.2.2.2)]
/-- six objects, in any order, between two addresses -/
def zPm (lo hi : Nat) (σ : Nat → Nat) : Prop := (∀ i, i < 6 → lo ≤ σ i ∧ σ i < hi) ∧ ∀ i j, i < 6 → j < 6 → σ i = σ j → i = j
/-- the coast C stands at b .. b + 15, its lights in the order σ, its ships in the order τ -/
def zRepC (b : Nat) (σ τ : Nat → Nat) (C : zCo) (h : zH) : Prop :=
  h[b]? = some (5, zCf b C) ∧ h[b + 1]? = some (100, zar 64 (fun c => .int (iI (C.1 c)))) ∧
  h[b + 2]? = some (105, zar 6 (fun i => .ref (σ i))) ∧ (∀ i, i < 6 → h[σ i]? = some (9, zLf (C.2.1 i))) ∧
  h[b + 3]? = some (106, zar 6 (fun i => .ref (τ i))) ∧ (∀ i, i < 6 → h[τ i]? = some (10, zSf (C.2.2.1 i))) ∧
  zPm (b + 4) (b + 10) σ ∧ zPm (b + 10) (b + 16) τ
section RC
variable {b : Nat} {σ τ : Nat → Nat} {C : zCo} {h : zH}
theorem zRepC.ob (R : zRepC b σ τ C h) : h[b]? = some (5, zCf b C) := R.1
theorem zRepC.dp (R : zRepC b σ τ C h) : h[b + 1]? = some (100, zar 64 (fun c => .int (iI (C.1 c)))) := R.2.1
theorem zRepC.la (R : zRepC b σ τ C h) : h[b + 2]? = some (105, zar 6 (fun i => .ref (σ i))) := R.2.2.1
theorem zRepC.li (R : zRepC b σ τ C h) {i : Nat} (hi : i < 6) : h[σ i]? = some (9, zLf (C.2.1 i)) := R.2.2.2.1 i hi
theorem zRepC.sa (R : zRepC b σ τ C h) : h[b + 3]? = some (106, zar 6 (fun i => .ref (τ i))) := R.2.2.2.2.1
theorem zRepC.si (R : zRepC b σ τ C h) {i : Nat} (hi : i < 6) : h[τ i]? = some (10, zSf (C.2.2.1 i)) := R.2.2.2.2.2.1 i hi
theorem zRepC.ps (R : zRepC b σ τ C h) : zPm (b + 4) (b + 10) σ := R.2.2.2.2.2.2.1
theorem zRepC.pt (R : zRepC b σ τ C h) : zPm (b + 10) (b + 16) τ := R.2.2.2.2.2.2.2
end RC
/-- outside of S the heap h' is h, and it may have more cells -/
def zSame (S : Nat → Prop) (h h' : zH) : Prop := h.length ≤ h'.length ∧ ∀ a, a < h.length → ¬ S a → h'[a]? = h[a]?
theorem zSame.rf {S : Nat → Prop} {h : zH} : zSame S h h := ⟨Nat.le_refl _, fun _ _ _ => rfl⟩
theorem zSame.tr {S : Nat → Prop} {h h1 h2 : zH} (a : zSame S h h1) (b : zSame S h1 h2) : zSame S h h2 := ⟨Nat.le_trans a.1 b.1, fun q hq hS => (b.2 q (Nat.lt_of_lt_of_le hq a.1) hS).trans (a.2 q hq hS)⟩
theorem zSame.get {S : Nat → Prop} {h h' : zH} (s : zSame S h h') {a : Nat} {c : zC} (hc : h[a]? = some c) (hS : ¬ S a) : h'[a]? = some c := (s.2 a (List.getElem?_eq_some_iff.mp hc).1 hS).trans hc
theorem zSame.set {S : Nat → Prop} {h h' : zH} (s : zSame S h h') {a : Nat} {c : zC} (hS : S a) : zSame S h (h'.set a c) := ⟨by rw [List.length_set]; exact s.1, fun q hq hn => by
  have hne : a ≠ q := fun e => hn (by rw [← e]; exact hS)
  rw [List.getElem?_set_ne hne]
  exact s.2 q hq hn⟩
theorem zSame.app {S : Nat → Prop} {h h' : zH} (s : zSame S h h') (j : zH) : zSame S h (h' ++ j) := ⟨by rw [List.length_append]; exact Nat.le_trans s.1 (Nat.le_add_right _ _), fun q hq hn => by rw [List.getElem?_append_left (Nat.lt_of_lt_of_le hq s.1)]; exact s.2 q hq hn⟩
theorem zSame.weak {S S' : Nat → Prop} {h h' : zH} (s : zSame S h h') (hw : ∀ a, S a → S' a) : zSame S' h h' := ⟨s.1, fun q hq hn => s.2 q hq (fun e => hn (hw q e))⟩
theorem zRepC.same {b : Nat} {σ τ : Nat → Nat} {C : zCo} {h h' : zH} {S : Nat → Prop} (R : zRepC b σ τ C h) (s : zSame S h h') (hS : ∀ a, b ≤ a → a < b + 16 → ¬ S a) : zRepC b σ τ C h' := by
  obtain ⟨h1, h2, h3, h4, h5, h6, h7, h8⟩ := R
  exact ⟨s.get h1 (hS _ (by omega) (by omega)), s.get h2 (hS _ (by omega) (by omega)), s.get h3 (hS _ (by omega) (by omega)), fun i hi => s.get (h4 i hi) (hS _ (by have := h7.1 i hi; omega) (by have := h7.1 i hi; omega)), s.get h5 (hS _ (by omega) (by omega)), fun i hi => s.get (h6 i hi) (hS _ (by have := h8.1 i hi; omega) (by have := h8.1 i hi; omega)), h7, h8⟩
section RS
variable {b : Nat} {σ τ : Nat → Nat} {C : zCo} {h : zH}
/-- the coast's own numbers are written -/
theorem zRepC.putO (R : zRepC b σ τ C h) (C' : zCo) {fs : List Value} (e : fs = zCf b C') (e1 : C'.1 = C.1) (e2 : C'.2.1 = C.2.1) (e3 : C'.2.2.1 = C.2.2.1) : zRepC b σ τ C' (h.set b (5, fs)) := by
  obtain ⟨h1, h2, h3, h4, h5, h6, h7, h8⟩ := R
  subst e
  exact ⟨zset_same h1, by rw [e1]; exact zkeep h2 (by omega), zkeep h3 (by omega), fun i hi => by rw [e2]; exact zkeep (h4 i hi) (by have := h7.1 i hi; omega), zkeep h5 (by omega), fun i hi => by rw [e3]; exact zkeep (h6 i hi) (by have := h8.1 i hi; omega), h7, h8⟩
/-- a depth is written -/
theorem zRepC.putD (R : zRepC b σ τ C h) (k d : Nat) : zRepC b σ τ (zup C.1 k d, C.2) (h.set (b + 1) (100, (zar 64 (fun c => .int (iI (C.1 c)))).set k (.int (iI d)))) := by
  obtain ⟨h1, h2, h3, h4, h5, h6, h7, h8⟩ := R
  refine ⟨zkeep h1 (by omega), ?_, zkeep h3 (by omega), fun i hi => zkeep (h4 i hi) (by have := h7.1 i hi; omega), zkeep h5 (by omega), fun i hi => zkeep (h6 i hi) (by have := h8.1 i hi; omega), h7, h8⟩
  rw [zset_same h2, zar_set]
  congr 3
  funext c
  by_cases e : c = k
  · subst e; simp [zup]
  · simp [zup, e]
/-- a light is written -/
theorem zRepC.putL (R : zRepC b σ τ C h) {i : Nat} (hi : i < 6) (l : zLt) {fs : List Value} (e : fs = zLf l) : zRepC b σ τ (C.1, zup C.2.1 i l, C.2.2) (h.set (σ i) (9, fs)) := by
  obtain ⟨h1, h2, h3, h4, h5, h6, h7, h8⟩ := R
  subst e
  have hs := h7.1 i hi
  refine ⟨zkeep h1 (by omega), zkeep h2 (by omega), zkeep h3 (by omega), fun j hj => ?_, zkeep h5 (by omega), fun j hj => zkeep (h6 j hj) (by have := h8.1 j hj; omega), h7, h8⟩
  by_cases hij : j = i
  · subst hij
    rw [zset_same (h4 j hj)]
    simp only [zup_s]
  · rw [zset_ne (fun e => hij (h7.2 j i hj hi e.symm))]
    simp only [zup_n hij]
    exact h4 j hj
/-- a ship is written -/
theorem zRepC.putS (R : zRepC b σ τ C h) {i : Nat} (hi : i < 6) (s : zSp) {fs : List Value} (e : fs = zSf s) : zRepC b σ τ (C.1, C.2.1, zup C.2.2.1 i s, C.2.2.2) (h.set (τ i) (10, fs)) := by
  obtain ⟨h1, h2, h3, h4, h5, h6, h7, h8⟩ := R
  subst e
  have hs := h8.1 i hi
  refine ⟨zkeep h1 (by omega), zkeep h2 (by omega), zkeep h3 (by omega), fun j hj => zkeep (h4 j hj) (by have := h7.1 j hj; omega), zkeep h5 (by omega), fun j hj => ?_, h7, h8⟩
  by_cases hij : j = i
  · subst hij
    rw [zset_same (h6 j hj)]
    simp only [zup_s]
  · rw [zset_ne (fun e => hij (h8.2 j i hj hi e.symm))]
    simp only [zup_n hij]
    exact h6 j hj
end RS
/-- numbers in their ranges; K bounds what grows -/
def zOk (K : Nat) (C : zCo) : Prop := (∀ c, C.1 c ≤ 9) ∧ (∀ i, (C.2.1 i).1 < 64 ∧ (C.2.1 i).2.1 ≤ 9 ∧ 8 ≤ (C.2.1 i).2.2.1 ∧ (C.2.1 i).2.2.1 ≤ 24 ∧ (C.2.1 i).2.2.2.1 < 8 ∧ (C.2.1 i).2.2.2.2 ≤ K) ∧
  (∀ i, (C.2.2.1 i).1 < 64 ∧ (C.2.2.1 i).2.1 ≤ 9 ∧ (∀ c, (C.2.2.1 i).2.2.1 = some c → c < 64) ∧ (C.2.2.1 i).2.2.2.2 ≤ K) ∧ C.2.2.2.1.1 ≤ 6 ∧ C.2.2.2.1.2 ≤ 6 ∧
  C.2.2.2.2.1 ≤ K ∧ C.2.2.2.2.2.1 ≤ K ∧ C.2.2.2.2.2.2.1 ≤ K ∧ C.2.2.2.2.2.2.2.1 ≤ K ∧ C.2.2.2.2.2.2.2.2 ≤ K
