/-! mathematics: clearances, by the flood and by groups -/
theorem zcnt_flip {p q : Nat → Bool} {r : Nat} (hp : p r = true) (hq : q r = false) (h : ∀ x, x ≠ r → p x = q x) : ∀ {n : Nat}, r < n → zcnt p n = zcnt q n + 1
  | 0, hr => absurd hr (Nat.not_lt_zero r)
  | n + 1, hr => by
    by_cases e : r = n
    · subst e
      rw [zcnt_t hp, zcnt_f hq, zcnt_eqn (p := p) (q := q) r (fun x hx => h x (by omega))]
    · have ih := zcnt_flip hp hq h (n := n) (by omega)
      show zcnt p n + (if p n then 1 else 0) = zcnt q n + (if q n then 1 else 0) + 1
      rw [ih, h n (fun q => e q.symm)]
      omega
/-- the groups: roots are found -/
def uI (p : Nat → Nat) : Prop := pOk p ∧ ∃ k, k + zcnt (fun c => decide (p c = c)) 64 = 64 ∧ ∀ c, c < 64 → p (f_root p k c) = f_root p k c
theorem f_root_st {p : Nat → Nat} : ∀ {k n c : Nat}, k ≤ n → p (f_root p k c) = f_root p k c → f_root p n c = f_root p k c
  | 0, n, c, _, h => by
    have h : p c = c := h
    cases n with
    | zero => rfl
    | succ n =>
      show (if p c = c then c else f_root p n (p c)) = c
      rw [if_pos h]
  | k + 1, 0, c, hk, _ => absurd hk (by omega)
  | k + 1, n + 1, c, hk, h => by
    show (if p c = c then c else f_root p n (p c)) = (if p c = c then c else f_root p k (p c))
    by_cases e : p c = c
    · rw [if_pos e, if_pos e]
    · rw [if_neg e, if_neg e]
      have h : p (if p c = c then c else f_root p k (p c)) = (if p c = c then c else f_root p k (p c)) := h
      rw [if_neg e] at h
      exact f_root_st (by omega) h
theorem uI.root {p : Nat → Nat} (h : uI p) {c : Nat} (hc : c < 64) : p (f_root p 64 c) = f_root p 64 c := by
  obtain ⟨-, k, hk, hr⟩ := h
  rw [f_root_st (k := k) (n := 64) (by omega) (hr c hc)]
  exact hr c hc
theorem uI_id : uI (fun c => c) := by
  refine ⟨fun c h => h, 0, ?_, fun c _ => rfl⟩
  have : ∀ n, zcnt (fun c => decide (c = c)) n = n := fun n => by
    induction n with
    | zero => rfl
    | succ n ih => rw [zcnt_t (decide_eq_true rfl), ih]
  rw [Nat.zero_add]
  exact this 64
theorem f_root_up {p : Nat → Nat} {rt rc : Nat} (h1 : p rt = rt) (h2 : p rc = rc) (hne : rc ≠ rt) : ∀ {k x : Nat}, p (f_root p k x) = f_root p k x → f_root (zup p rt rc) (k + 1) x = if f_root p k x = rt then rc else f_root p k x
  | 0, x, h => by
    have h : p x = x := h
    show (if zup p rt rc x = x then x else zup p rt rc x) = if x = rt then rc else x
    by_cases e : x = rt
    · subst e
      rw [zup_s, if_neg hne, if_pos rfl]
    · rw [zup_n e, if_pos h, if_neg e]
  | k + 1, x, h => by
    show (if zup p rt rc x = x then x else f_root (zup p rt rc) (k + 1) (zup p rt rc x)) = if (if p x = x then x else f_root p k (p x)) = rt then rc else (if p x = x then x else f_root p k (p x))
    have h : p (if p x = x then x else f_root p k (p x)) = (if p x = x then x else f_root p k (p x)) := h
    by_cases e0 : p x = x
    · rw [if_pos e0]
      by_cases e : x = rt
      · subst e
        rw [zup_s, if_neg hne, if_pos rfl]
        show (if zup p x rc rc = rc then rc else f_root (zup p x rc) k (zup p x rc rc)) = rc
        rw [zup_n hne, if_pos h2]
      · rw [zup_n e, if_pos e0, if_neg e]
    · rw [if_neg e0] at h ⊢
      have e : x ≠ rt := fun q => e0 (by rw [q]; exact h1)
      rw [zup_n e, if_neg e0]
      exact f_root_up h1 h2 hne h
/-- two cells of one group -/
abbrev uG (p : Nat → Nat) (a b : Nat) : Prop := f_root p 64 a = f_root p 64 b
theorem uI.unite {p : Nat → Nat} (h : uI p) {t c : Nat} (ht : t < 64) (hc : c < 64) : uI (zup p (f_root p 64 t) (f_root p 64 c)) ∧ ∀ x, x < 64 → f_root (zup p (f_root p 64 t) (f_root p 64 c)) 64 x = if f_root p 64 x = f_root p 64 t then f_root p 64 c else f_root p 64 x := by
  have r1 := h.root ht
  have r2 := h.root hc
  have l1 := f_root_lt (n := 64) h.1 ht
  have l2 := f_root_lt (n := 64) h.1 hc
  by_cases e : f_root p 64 c = f_root p 64 t
  · have ez : zup p (f_root p 64 t) (f_root p 64 c) = p := by
      funext x
      by_cases q : x = f_root p 64 t
      · rw [q, zup_s, e, r1]
      · rw [zup_n q]
    rw [ez]
    refine ⟨h, fun x hx => ?_⟩
    by_cases q : f_root p 64 x = f_root p 64 t
    · rw [if_pos q, e, q]
    · rw [if_neg q]
  · obtain ⟨h0, k, hk, hr⟩ := h
    generalize f_root p 64 t = rt at *
    generalize f_root p 64 c = rc at *
    have hcn := zcnt_flip (p := fun c => decide (p c = c)) (q := fun c => decide (zup p rt rc c = c)) (r := rt) (decide_eq_true r1) (decide_eq_false (by rw [zup_s]; exact e)) (fun x hx => by rw [zup_n hx]) (n := 64) l1
    have hup : ∀ x, x < 64 → f_root (zup p rt rc) (k + 1) x = if f_root p k x = rt then rc else f_root p k x := fun x hx => f_root_up r1 r2 e (hr x hx)
    have hrt : ∀ x, x < 64 → zup p rt rc (f_root (zup p rt rc) (k + 1) x) = f_root (zup p rt rc) (k + 1) x := fun x hx => by
      rw [hup x hx]
      by_cases q : f_root p k x = rt
      · rw [if_pos q, zup_n e, r2]
      · rw [if_neg q, zup_n q, hr x hx]
    refine ⟨⟨fun x hx => ?_, k + 1, by omega, hrt⟩, fun x hx => ?_⟩
    · by_cases q : x = rt
      · rw [q, zup_s]; exact l2
      · rw [zup_n q]; exact h0 x hx
    · rw [f_root_st (k := k + 1) (n := 64) (by omega) (hrt x hx), hup x hx, f_root_st (k := k) (n := 64) (by omega) (hr x hx)]
/-- cells between which one goes over depths from d on -/
def cN (C : zCo) (d a b : Nat) : Prop := d ≤ C.1 a ∧ d ≤ C.1 b ∧ ∃ n, wk (f_opD C d) a n b
theorem wk_tr {op : Nat → Bool} {a b : Nat} : ∀ {n m c : Nat}, wk op a n b → wk op b m c → wk op a (n + m) c
  | n, 0, c, h, h2 => by rw [show c = b from h2]; exact h
  | n, m + 1, c, h, h2 => by
    obtain ⟨ho, c', d, hd, hw, hz⟩ := h2
    exact ⟨ho, c', d, hd, wk_tr h hw, hz⟩
theorem wk_open {op : Nat → Bool} {s : Nat} (hs : op s = true) : ∀ {n c : Nat}, wk op s n c → op c = true
  | 0, c, h => by rw [show c = s from h]; exact hs
  | n + 1, c, h => h.1
theorem wk_rev {op : Nat → Bool} {s : Nat} (hs : s < 64) (ho : op s = true) : ∀ {n c : Nat}, wk op s n c → ∃ m, wk op c m s
  | 0, c, h => ⟨0, (show c = s from h).symm⟩
  | n + 1, c, h => by
    obtain ⟨hc, c', d, hd, hw, hz⟩ := h
    obtain ⟨m, hm⟩ := wk_rev hs ho hw
    obtain ⟨e, he, hze⟩ := zNb_sym (wk_lt hs hw) hd hz
    exact ⟨1 + m, wk_tr ⟨wk_open ho hw, c, e, he, rfl, hze⟩ hm⟩
theorem wk_mono {op op' : Nat → Bool} (h : ∀ c, op c = true → op' c = true) {s : Nat} : ∀ {n c : Nat}, wk op s n c → wk op' s n c
  | 0, _, q => q
  | n + 1, c, ⟨ho, c', d, hd, hw, hz⟩ => ⟨h c ho, c', d, hd, wk_mono h hw, hz⟩
section
variable {C : zCo} {d a b : Nat}
theorem cN.rf (h : d ≤ C.1 a) : cN C d a a := ⟨h, h, 0, rfl⟩
theorem cN.sm (ha : a < 64) (h : cN C d a b) : cN C d b a := by
  obtain ⟨h1, h2, n, h3⟩ := h
  obtain ⟨m, hm⟩ := wk_rev ha (decide_eq_true h1) h3
  exact ⟨h2, h1, m, hm⟩
theorem cN.tr {c : Nat} (h : cN C d a b) (h2 : cN C d b c) : cN C d a c := ⟨h.1, h2.2.1, by
  obtain ⟨n, h3⟩ := h.2.2
  obtain ⟨m, h4⟩ := h2.2.2
  exact ⟨n + m, wk_tr h3 h4⟩⟩
theorem cN.dn {e : Nat} (he : e ≤ d) (h : cN C d a b) : cN C e a b := ⟨Nat.le_trans he h.1, Nat.le_trans he h.2.1, by
  obtain ⟨n, h3⟩ := h.2.2
  exact ⟨n, wk_mono (fun c q => decide_eq_true (Nat.le_trans he (of_decide_eq_true q))) h3⟩⟩
/-- groups are sound: at most what is joined over depths from d on -/
def uS (C : zCo) (d : Nat) (p : Nat → Nat) : Prop := ∀ x y, x < 64 → y < 64 → uG p x y → x = y ∨ cN C d x y
/-- groups are whole: neighbours of such depths are together -/
def uC (C : zCo) (d : Nat) (p : Nat → Nat) : Prop := ∀ x y k, x < 64 → k < 4 → zNb x k = some y → d ≤ C.1 x → d ≤ C.1 y → uG p x y
def uLe (p q : Nat → Nat) : Prop := ∀ x y, x < 64 → y < 64 → uG p x y → uG q x y
theorem uStep_all {c k : Nat} {p : Nat → Nat} (hc : c < 64) (hk : k < 4) (hd : C.1 c = d) (hI : uI p) (hS : uS C d p) : uI (uStep C d c k p) ∧ uS C d (uStep C d c k p) ∧ uLe p (uStep C d c k p) ∧ ∀ t, zNb c k = some t → d ≤ C.1 t → uG (uStep C d c k p) c t := by
  unfold uStep
  cases hz : zNb c k with
  | none => exact ⟨hI, hS, fun _ _ _ _ h => h, fun t ht => by cases ht⟩
  | some t =>
    have ht := zNb_lt hc hz
    dsimp only
    by_cases hdt : d ≤ C.1 t
    · rw [if_pos hdt]
      obtain ⟨u1, u2⟩ := hI.unite ht hc
      have hct : cN C d c t := ⟨by omega, hdt, 1, decide_eq_true hdt, c, k, hk, rfl, hz⟩
      have cl : ∀ x y, x < 64 → y < 64 → uG p x y → x = y ∨ cN C d x y := hS
      refine ⟨u1, fun x y hx hy h => ?_, fun x y hx hy h => ?_, fun t' ht' _ => ?_⟩
      · unfold uG at h
        rw [u2 x hx, u2 y hy] at h
        have go : ∀ x y, x < 64 → y < 64 → f_root p 64 x = f_root p 64 t → f_root p 64 c = f_root p 64 y → cN C d x y := fun x y hx hy q1 q2 => by
          have a1 : cN C d x t := by
            rcases cl x t hx ht q1 with e | e
            · rw [e]; exact cN.rf hdt
            · exact e
          have a2 : cN C d c y := by
            rcases cl c y hc hy q2 with e | e
            · rw [← e]; exact cN.rf (by omega)
            · exact e
          exact (a1.tr (hct.sm hc)).tr a2
        by_cases q1 : f_root p 64 x = f_root p 64 t
        · rw [if_pos q1] at h
          by_cases q2 : f_root p 64 y = f_root p 64 t
          · exact cl x y hx hy (q1.trans q2.symm)
          · rw [if_neg q2] at h
            exact Or.inr (go x y hx hy q1 h)
        · rw [if_neg q1] at h
          by_cases q2 : f_root p 64 y = f_root p 64 t
          · rw [if_pos q2] at h
            exact Or.inr ((go y x hy hx q2 h.symm).sm hy)
          · rw [if_neg q2] at h
            exact cl x y hx hy h
      · have h : f_root p 64 x = f_root p 64 y := h
        show f_root _ 64 x = f_root _ 64 y
        rw [u2 x hx, u2 y hy, h]
      · cases ht'
        show f_root _ 64 c = f_root _ 64 t
        rw [u2 c hc, u2 t ht, if_pos rfl]
        split
        · rfl
        · rfl
    · rw [if_neg hdt]
      exact ⟨hI, hS, fun _ _ _ _ h => h, fun t' ht' h => by cases ht'; exact absurd h hdt⟩
theorem uIn_all {c : Nat} (hc : c < 64) (hd : C.1 c = d) : ∀ {n k : Nat} {p : Nat → Nat}, n + k = 4 → uI p → uS C d p → uI (uIn C d c n k p) ∧ uS C d (uIn C d c n k p) ∧ uLe p (uIn C d c n k p) ∧ ∀ j t, k ≤ j → j < 4 → zNb c j = some t → d ≤ C.1 t → uG (uIn C d c n k p) c t
  | 0, k, p, hn, hI, hS => ⟨hI, hS, fun _ _ _ _ h => h, fun j t h1 h2 => absurd h1 (by omega)⟩
  | n + 1, k, p, hn, hI, hS => by
    obtain ⟨a1, a2, a3, a4⟩ := uStep_all (k := k) hc (by omega) hd hI hS
    obtain ⟨b1, b2, b3, b4⟩ := uIn_all hc hd (n := n) (k := k + 1) (by omega) a1 a2
    refine ⟨b1, b2, fun x y hx hy h => b3 x y hx hy (a3 x y hx hy h), fun j t h1 h2 h3 h4 => ?_⟩
    by_cases e : j = k
    · subst e
      exact b3 c t hc (zNb_lt hc h3) (a4 t h3 h4)
    · exact b4 j t (by omega) h2 h3 h4
theorem uAll_all : ∀ {n c : Nat} {p : Nat → Nat}, n + c = 64 → uI p → uS C d p → uI (uAll C d n c p) ∧ uS C d (uAll C d n c p) ∧ uLe p (uAll C d n c p) ∧ ∀ x j t, c ≤ x → x < 64 → C.1 x = d → j < 4 → zNb x j = some t → d ≤ C.1 t → uG (uAll C d n c p) x t
  | 0, c, p, hn, hI, hS => ⟨hI, hS, fun _ _ _ _ h => h, fun x j t h1 h2 => absurd h1 (by omega)⟩
  | n + 1, c, p, hn, hI, hS => by
    show uI (uAll C d n (c + 1) (if C.1 c = d then uIn C d c 4 0 p else p)) ∧ uS C d (uAll C d n (c + 1) (if C.1 c = d then uIn C d c 4 0 p else p)) ∧ uLe p (uAll C d n (c + 1) (if C.1 c = d then uIn C d c 4 0 p else p)) ∧ ∀ x j t, c ≤ x → x < 64 → C.1 x = d → j < 4 → zNb x j = some t → d ≤ C.1 t → uG (uAll C d n (c + 1) (if C.1 c = d then uIn C d c 4 0 p else p)) x t
    by_cases e : C.1 c = d
    · rw [if_pos e]
      obtain ⟨a1, a2, a3, a4⟩ := uIn_all (n := 4) (k := 0) (by omega : c < 64) e rfl hI hS
      obtain ⟨b1, b2, b3, b4⟩ := uAll_all (n := n) (c := c + 1) (by omega) a1 a2
      refine ⟨b1, b2, fun x y hx hy h => b3 x y hx hy (a3 x y hx hy h), fun x j t h1 h2 h3 h4 h5 h6 => ?_⟩
      by_cases q : x = c
      · subst q
        exact b3 x t h2 (zNb_lt h2 h5) (a4 j t (Nat.zero_le j) h4 h5 h6)
      · exact b4 x j t (by omega) h2 h3 h4 h5 h6
    · rw [if_neg e]
      obtain ⟨b1, b2, b3, b4⟩ := uAll_all (n := n) (c := c + 1) (by omega) hI hS
      refine ⟨b1, b2, b3, fun x j t h1 h2 h3 h4 h5 h6 => ?_⟩
      by_cases q : x = c
      · subst q
        exact absurd h3 e
      · exact b4 x j t (by omega) h2 h3 h4 h5 h6
theorem uS.dn {e : Nat} {p : Nat → Nat} (he : e ≤ d) (h : uS C d p) : uS C e p := fun x y hx hy q => (h x y hx hy q).imp id (fun q => q.dn he)
/-- a whole depth -/
theorem uAll_next {p : Nat → Nat} (hI : uI p) (hS : uS C (d + 1) p) (hC : uC C (d + 1) p) : uI (uAll C d 64 0 p) ∧ uS C d (uAll C d 64 0 p) ∧ uC C d (uAll C d 64 0 p) := by
  obtain ⟨a1, a2, a3, a4⟩ := uAll_all (C := C) (d := d) (n := 64) (c := 0) rfl hI (hS.dn (Nat.le_succ d))
  refine ⟨a1, a2, fun x y k hx hk hz h1 h2 => ?_⟩
  have hy := zNb_lt hx hz
  by_cases e1 : C.1 x = d
  · exact a4 x k y (Nat.zero_le x) hx e1 hk hz h2
  · by_cases e2 : C.1 y = d
    · obtain ⟨e, he, hze⟩ := zNb_sym hx hk hz
      exact (a4 y e x (Nat.zero_le y) hy e2 he hze h1).symm
    · exact a3 x y hx hy (hC x y k hx hk hz (by omega) (by omega))
theorem uC_wk {p : Nat → Nat} (h : uC C d p) (ha : a < 64) (hd : d ≤ C.1 a) : ∀ {n b : Nat}, wk (f_opD C d) a n b → uG p a b
  | 0, b, q => by rw [show b = a from q]
  | n + 1, b, q => by
    obtain ⟨ho, c', k, hk, hw, hz⟩ := q
    exact (uC_wk h ha hd hw).trans (h c' b k (wk_lt ha hw) hk hz (of_decide_eq_true (wk_open (op := f_opD C d) (decide_eq_true hd) hw)) (of_decide_eq_true ho))
/-- joined over depths from d on, or one -/
theorem uG_iff {p : Nat → Nat} (hS : uS C d p) (hC : uC C d p) (ha : a < 64) (hb : b < 64) (h1 : d ≤ C.1 a) : uG p a b ↔ cN C d a b := by
  constructor
  · intro h
    rcases hS a b ha hb h with e | e
    · rw [← e]; exact cN.rf h1
    · exact e
  · rintro ⟨-, -, n, hw⟩
    exact uC_wk hC ha h1 hw
theorem f_cl_spec (ha : a < 64) (hb : b < 64) : ∀ {n : Nat} {p : Nat → Nat}, uI p → uS C (n + 1) p → uC C (n + 1) p → f_cl C a b n p ≤ n ∧ ∀ e, 1 ≤ e → e ≤ n → (cN C e a b ↔ e ≤ f_cl C a b n p)
  | 0, p, _, _, _ => ⟨Nat.le_refl 0, fun e h1 h2 => absurd h1 (by omega)⟩
  | n + 1, p, hI, hS, hC => by
    obtain ⟨a1, a2, a3⟩ := uAll_next (d := n + 1) hI hS hC
    have ih := f_cl_spec ha hb (n := n) a1 a2 a3
    have eq : f_cl C a b (n + 1) p = if (n + 1 ≤ C.1 a ∧ n + 1 ≤ C.1 b) ∧ uG (uAll C (n + 1) 64 0 p) a b then n + 1 else f_cl C a b n (uAll C (n + 1) 64 0 p) := rfl
    rw [eq]
    by_cases q : (n + 1 ≤ C.1 a ∧ n + 1 ≤ C.1 b) ∧ uG (uAll C (n + 1) 64 0 p) a b
    · rw [if_pos q]
      have hc := (uG_iff a2 a3 ha hb q.1.1).mp q.2
      exact ⟨Nat.le_refl _, fun e h1 h2 => ⟨fun _ => h2, fun _ => hc.dn h2⟩⟩
    · rw [if_neg q]
      refine ⟨Nat.le_succ_of_le ih.1, fun e h1 h2 => ?_⟩
      by_cases he : e = n + 1
      · subst he
        refine ⟨fun h => absurd ⟨⟨h.1, h.2.1⟩, (uG_iff a2 a3 ha hb h.1).mpr h⟩ q, fun h => ?_⟩
        have := ih.1
        omega
      · exact ih.2 e h1 (by omega)
theorem f_cf_spec (ha : a < 64) (hb : b < 64) : ∀ {n d g : Nat}, d = g + 1 → (∀ e, 1 ≤ e → e ≤ g → cN C e a b) → f_cf C a b n d g < n + d ∧ ∀ e, 1 ≤ e → e < n + d → (cN C e a b ↔ e ≤ f_cf C a b n d g)
  | 0, d, g, hd, h => ⟨by show g < 0 + d; omega, fun e h1 h2 => ⟨fun _ => by show e ≤ g; omega, fun q => h e h1 q⟩⟩
  | n + 1, d, g, hd, h => by
    have stop : ∀ r, r = g → ¬ cN C d a b → r < n + 1 + d ∧ ∀ e, 1 ≤ e → e < n + 1 + d → (cN C e a b ↔ e ≤ r) := fun r hr hn => by
      subst hr
      refine ⟨by omega, fun e h1 h2 => ⟨fun q => ?_, fun q => h e h1 q⟩⟩
      by_cases he : e ≤ r
      · exact he
      · exact absurd (q.dn (by omega : d ≤ e)) hn
    have eq : f_cf C a b (n + 1) d g = if d ≤ C.1 a then (if f_ln (f_opD C d) a b = none then g else f_cf C a b n (d + 1) d) else g := rfl
    rw [eq]
    by_cases q1 : d ≤ C.1 a
    · rw [if_pos q1]
      by_cases q2 : f_ln (f_opD C d) a b = none
      · rw [if_pos q2]
        exact stop g rfl (fun hc => by
          obtain ⟨m, hm⟩ := hc.2.2
          exact (f_ln_none ha).mp q2 m hm)
      · rw [if_neg q2]
        have hc : cN C d a b := by
          cases hl : f_ln (f_opD C d) a b with
          | none => exact absurd hl q2
          | some m =>
            have hw := f_ln_wk ha hl
            exact ⟨q1, of_decide_eq_true (wk_open (op := f_opD C d) (decide_eq_true q1) hw), m, hw⟩
        have ih := f_cf_spec ha hb (n := n) (d := d + 1) (g := d) rfl (fun e h1 h2 => hc.dn h2)
        rw [show n + 1 + d = n + (d + 1) by omega]
        exact ih
    · rw [if_neg q1]
      exact stop g rfl (fun hc => q1 hc.1)
end
theorem cl_char {C : zCo} {K : Nat} (hO : zOk K C) {a b : Nat} (ha : a < 64) (hb : b < 64) : ∀ e, 1 ≤ e → (cN C e a b ↔ e ≤ f_cl C a b 9 (fun c => c)) := by
  have hS : uS C 10 (fun c => c) := fun x y hx hy h => by
    have r : ∀ z, f_root (fun c => c) 64 z = z := fun z => by show (if z = z then z else _) = z; rw [if_pos rfl]
    unfold uG at h
    rw [r, r] at h
    exact Or.inl h
  have hC : uC C 10 (fun c => c) := fun x y k hx hk hz h1 h2 => absurd (hO.1 x) (by omega)
  have sp := f_cl_spec (C := C) ha hb (n := 9) uI_id hS hC
  intro e h1
  by_cases h9 : e ≤ 9
  · exact sp.2 e h1 h9
  · refine ⟨fun q => ?_, fun q => ?_⟩
    · have := hO.1 a
      have := q.1
      omega
    · have := sp.1
      omega
theorem hDep_of {K : Nat} {C : zCo} (hO : zOk K C) : hDep C := by
  refine ⟨f_ord_len hO, fun c hc => f_ord_min hO hc, fun r a b ha hb => f_ord_step ha hb, fun a b ha hb => ?_⟩
  have c1 := cl_char hO ha hb
  have c2 := cl_char hO hb ha
  have cf := f_cf_spec (C := C) ha hb (n := 10) (d := 1) (g := 0) rfl (fun e h1 h2 => absurd h1 (by omega))
  have hb9 : ∀ e, cN C e a b → e ≤ 9 := fun e q => Nat.le_trans q.1 (hO.1 a)
  generalize f_cl C a b 9 (fun c => c) = r at c1 ⊢
  generalize f_cl C b a 9 (fun c => c) = r2 at c2 ⊢
  generalize f_cf C a b 10 1 0 = g at cf ⊢
  have key : ∀ x y : Nat, (∀ e, 1 ≤ e → e ≤ x → e ≤ y) → x ≤ y := fun x y h => by
    by_cases q : x = 0
    · omega
    · exact h x (by omega) (Nat.le_refl x)
  refine ⟨Nat.le_antisymm (key _ _ fun e h1 h2 => ?_) (key _ _ fun e h1 h2 => ?_), Nat.le_antisymm (key _ _ fun e h1 h2 => ?_) (key _ _ fun e h1 h2 => ?_), key _ _ fun e h1 h2 => ((c1 e h1).mpr h2).1, key _ _ fun e h1 h2 => ((c1 e h1).mpr h2).2.1⟩
  · exact (c1 e h1).mp ((cf.2 e h1 (by omega)).mpr h2)
  · have q := (c1 e h1).mpr h2
    have := hb9 e q
    exact (cf.2 e h1 (by omega)).mp q
  · exact (c1 e h1).mp (((c2 e h1).mpr h2).sm hb)
  · exact (c2 e h1).mp (((c1 e h1).mpr h2).sm ha)
