/-! what a state is: a light, a ship, a coast; the cells that hold them -/
/-- cell, range, period, phase, sightings -/
abbrev zLt : Type := Nat × Nat × Nat × Nat × Nat
/-- cell, draught, goal, wrecked, dark minutes -/
abbrev zSp : Type := Nat × Nat × Option Nat × Bool × Nat
/-- depths, lights, ships, their numbers, (minute, sightings, removed sightings, wrecks, salvage) -/
abbrev zCo : Type := (Nat → Nat) × (Nat → zLt) × (Nat → zSp) × (Nat × Nat) × (Nat × Nat × Nat × Nat × Nat)
def zar (n : Nat) (f : Nat → Value) : List Value := (List.range n).map f
theorem zar_len (n : Nat) (f : Nat → Value) : (zar n f).length = n := by simp [zar]
theorem zar_get {n k : Nat} {f : Nat → Value} (h : k < n) : (zar n f)[k]? = some (f k) := by simp [zar, h]
theorem zar_set {n k : Nat} {f : Nat → Value} {v : Value} (h : k < n) : (zar n f).set k v = zar n (fun j => if j = k then v else f j) := by
  apply List.ext_getElem?
  intro j
  rw [List.getElem?_set]
  unfold zar
  by_cases hj : j < n
  · by_cases hk : k = j
    · subst hk; simp [hj]
    · rw [if_neg hk]
      simp [hj, Ne.symm hk]
  · have h2 : ¬ k = j := fun q => hj (q ▸ h)
    rw [if_neg h2]
    simp [hj]
theorem zar_congr {n : Nat} {f g : Nat → Value} (h : ∀ k, k < n → f k = g k) : zar n f = zar n g := List.map_congr_left fun k hk => h k (List.mem_range.mp hk)
theorem zset_same {h : zH} {a : Nat} {c c0 : zC} (hc : h[a]? = some c0) : (h.set a c)[a]? = some c := List.getElem?_set_self (List.getElem?_eq_some_iff.mp hc).1
theorem zset_ne {h : zH} {a b : Nat} {c : zC} (hn : a ≠ b) : (h.set a c)[b]? = h[b]? := List.getElem?_set_ne hn
theorem zapp {h j : zH} {a : Nat} {c : zC} (hc : h[a]? = some c) : (h ++ j)[a]? = some c := by rw [List.getElem?_append_left (List.getElem?_eq_some_iff.mp hc).1]; exact hc
def zLf (l : zLt) : List Value := [.int (nI l.1), .int (nI l.2.1), .int (nI l.2.2.1), .int (nI l.2.2.2.1), .int (nI l.2.2.2.2)]
def zGo (o : Option Nat) : Int32 := match o with
  | none => -1
  | some c => nI c
def zBo (b : Bool) : Int32 := if b then 1 else 0
def zSf (s : zSp) : List Value := [.int (nI s.1), .int (nI s.2.1), .int (zGo s.2.2.1), .int (zBo s.2.2.2.1), .int (nI s.2.2.2.2)]
def zCf (b : Nat) (C : zCo) : List Value := [.ref (b + 1), .ref (b + 2), .ref (b + 3), .int (nI C.2.2.2.1.1), .int (nI C.2.2.2.1.2), .int (nI C.2.2.2.2.1), .int (nI C.2.2.2.2.2.1), .int (nI C.2.2.2.2.2.2.1), .int (nI C.2.2.2.2.2.2.2.1), .int (nI C.2.2.2.2.2.2.2.2)]
/-- six objects, in any order, between two addresses -/
def zPm (lo hi : Nat) (σ : Nat → Nat) : Prop := (∀ i, i < 6 → lo ≤ σ i ∧ σ i < hi) ∧ ∀ i j, i < 6 → j < 6 → σ i = σ j → i = j
/-- the coast C stands at b .. b + 15, its lights in the order σ, its ships in the order τ -/
def zRepC (b : Nat) (σ τ : Nat → Nat) (C : zCo) (h : zH) : Prop :=
  h[b]? = some (5, zCf b C) ∧ h[b + 1]? = some (100, zar 64 (fun c => .int (nI (C.1 c)))) ∧
  h[b + 2]? = some (105, zar 6 (fun i => .ref (σ i))) ∧ (∀ i, i < 6 → h[σ i]? = some (9, zLf (C.2.1 i))) ∧
  h[b + 3]? = some (106, zar 6 (fun i => .ref (τ i))) ∧ (∀ i, i < 6 → h[τ i]? = some (10, zSf (C.2.2.1 i))) ∧
  zPm (b + 4) (b + 10) σ ∧ zPm (b + 10) (b + 16) τ
/-- outside of S the heap h' is h, and it may have more cells -/
def zSame (S : Nat → Prop) (h h' : zH) : Prop := h.length ≤ h'.length ∧ ∀ a, a < h.length → ¬ S a → h'[a]? = h[a]?
theorem zSame.rf {S : Nat → Prop} {h : zH} : zSame S h h := ⟨Nat.le_refl _, fun _ _ _ => rfl⟩
theorem zSame.tr {S : Nat → Prop} {h h1 h2 : zH} (a : zSame S h h1) (b : zSame S h1 h2) : zSame S h h2 := ⟨Nat.le_trans a.1 b.1, fun q hq hS => (b.2 q (Nat.lt_of_lt_of_le hq a.1) hS).trans (a.2 q hq hS)⟩
theorem zSame.get {S : Nat → Prop} {h h' : zH} (s : zSame S h h') {a : Nat} {c : zC} (hc : h[a]? = some c) (hS : ¬ S a) : h'[a]? = some c := (s.2 a (List.getElem?_eq_some_iff.mp hc).1 hS).trans hc
theorem zSame.set {S : Nat → Prop} {h h' : zH} (s : zSame S h h') {a : Nat} {c : zC} (hS : S a) : zSame S h (h'.set a c) := ⟨by rw [List.length_set]; exact s.1, fun q hq hn => by
  have hne : a ≠ q := fun e => hn (by rw [← e]; exact hS)
  rw [List.getElem?_set_ne hne]
  exact s.2 q hq hn⟩
theorem zSame.app {S : Nat → Prop} {h h' : zH} (s : zSame S h h') (j : zH) : zSame S h (h' ++ j) := ⟨by rw [List.length_append]; exact Nat.le_trans s.1 (Nat.le_add_right _ _), fun q hq hn => by rw [List.getElem?_append_left (Nat.lt_of_lt_of_le hq s.1)]; exact s.2 q hq hn⟩
theorem zSame.weak {S S' : Nat → Prop} {h h' : zH} (s : zSame S h h') (hw : ∀ a, S a → S' a) : zSame S' h h' := ⟨s.1, fun q hq hn => s.2 q hq (fun e => hn (hw q e))⟩
theorem zRepC.same {b : Nat} {σ τ : Nat → Nat} {C : zCo} {h h' : zH} {S : Nat → Prop} (R : zRepC b σ τ C h) (s : zSame S h h') (hS : ∀ a, b ≤ a → a < b + 16 → ¬ S a) : zRepC b σ τ C h' := by
  obtain ⟨h1, h2, h3, h4, h5, h6, h7, h8⟩ := R
  exact ⟨s.get h1 (hS _ (by omega) (by omega)), s.get h2 (hS _ (by omega) (by omega)), s.get h3 (hS _ (by omega) (by omega)), fun i hi => s.get (h4 i hi) (hS _ (by have := h7.1 i hi; omega) (by have := h7.1 i hi; omega)), s.get h5 (hS _ (by omega) (by omega)), fun i hi => s.get (h6 i hi) (hS _ (by have := h8.1 i hi; omega) (by have := h8.1 i hi; omega)), h7, h8⟩
/-- numbers in their ranges; K bounds what grows -/
def zOk (K : Nat) (C : zCo) : Prop := (∀ c, c < 64 → C.1 c ≤ 9) ∧ (∀ i, i < 6 → (C.2.1 i).1 < 64 ∧ (C.2.1 i).2.1 ≤ 9 ∧ 8 ≤ (C.2.1 i).2.2.1 ∧ (C.2.1 i).2.2.1 ≤ 24 ∧ (C.2.1 i).2.2.2.1 < 8 ∧ (C.2.1 i).2.2.2.2 ≤ K) ∧
  (∀ i, i < 6 → (C.2.2.1 i).1 < 64 ∧ (C.2.2.1 i).2.1 ≤ 9 ∧ (∀ c, (C.2.2.1 i).2.2.1 = some c → c < 64) ∧ (C.2.2.1 i).2.2.2.2 ≤ K) ∧ C.2.2.2.1.1 ≤ 6 ∧ C.2.2.2.1.2 ≤ 6 ∧
  C.2.2.2.2.1 ≤ K ∧ C.2.2.2.2.2.1 ≤ K ∧ C.2.2.2.2.2.2.1 ≤ K ∧ C.2.2.2.2.2.2.2.1 ≤ K ∧ C.2.2.2.2.2.2.2.2 ≤ K
theorem zn0 : (0 : Int32).toInt = 0 := rfl
theorem zn1 : (1 : Int32).toInt = 1 := rfl
theorem zn2 : (2 : Int32).toInt = 2 := rfl
theorem zn3 : (3 : Int32).toInt = 3 := rfl
theorem zn4 : (4 : Int32).toInt = 4 := rfl
theorem zn5 : (5 : Int32).toInt = 5 := rfl
theorem zn6 : (6 : Int32).toInt = 6 := rfl
theorem zn7 : (7 : Int32).toInt = 7 := rfl
theorem zn8 : (8 : Int32).toInt = 8 := rfl
theorem zn9 : (9 : Int32).toInt = 9 := rfl
theorem zn10 : (10 : Int32).toInt = 10 := rfl
theorem zn11 : (11 : Int32).toInt = 11 := rfl
theorem zn12 : (12 : Int32).toInt = 12 := rfl
theorem zn24 : (24 : Int32).toInt = 24 := rfl
theorem zn48 : (48 : Int32).toInt = 48 := rfl
theorem zn60 : (60 : Int32).toInt = 60 := rfl
theorem zn64 : (64 : Int32).toInt = 64 := rfl
theorem znm1 : (-1 : Int32).toInt = -1 := rfl
