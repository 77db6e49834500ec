/-! the start of a method, once more; throws by their sites; Int32 as numbers -/
def zNL (X : zX) (maxL : Nat) : Prop := ∀ i, Nat.blt i maxL = true → Nat.blt i X.2.2.2.2.2.2.2.2.2.2.2.2 = true
theorem zMet.go {y : MethodName} {cc : ByteArray} {maxL : Nat} {ret : Option FieldType} {d mc ms : Nat} {as : List Value} {h : zH} {P : Option Value → zH → Prop} {E : String → zH → Prop} (hy : plainName y.cls = true) (hsl : (lg_sl as).length ≤ maxL)
    (body : ∀ X : zX, zF zT zN X cc y.cls → zB X d mc ms ret P E → zNL X maxL → X.2.2.2.1 = zRm d mc ms → X.2.2.2.2.2.2.2.2.1.name = y.name → Z X 0 0 0 (lv_args 0 as) [] h) : zMet y cc maxL ret d mc ms as h P E :=
  zMet.of hy hsl fun X F B hn hm hR => body X F B (fun i q => by rw [hm]; exact q) hR hn
/-- what a contract says may be weakened -/
theorem vx_Met_mono {l : Launch} {y : MethodName} {ws : List Cond} {rm : Room} {Pc : Array Value → State → Prop} {Qc Qc' : Array Value → State → Outcome → State → Prop} {XC XC' : String → State → State → Prop} {mc ms : Nat} {free : Addr → Prop} (h : vx_Met l y ws rm Pc Qc XC mc ms free) (h1 : ∀ a s o t, Qc a s o t → Qc' a s o t) (h2 : ∀ C s t, XC C s t → XC' C s t) : vx_Met l y ws rm Pc Qc' XC' mc ms free := by
  intro p e ha hc hk s m args below hf happ hP hT
  obtain ⟨t, o, a1, a2, a3, hq⟩ := h p e ha hc hk s m args below hf happ hP hT
  refine ⟨t, o, a1, a2, a3, ?_⟩
  rcases hq with ⟨q1, q2⟩ | ⟨q, q1, E, ce, L, q2, q3⟩
  · exact Or.inl ⟨h1 _ _ _ _ q1, q2⟩
  · exact Or.inr ⟨q, q1, E, ce, L, h2 _ _ _ q2, q3⟩
theorem zMet.mono {y : MethodName} {cc : ByteArray} {maxL : Nat} {ret : Option FieldType} {d mc ms : Nat} {as : List Value} {h : zH} {P P' : Option Value → zH → Prop} {E E' : String → zH → Prop} (M : zMet y cc maxL ret d mc ms as h P E) (h1 : ∀ v h, P v h → P' v h) (h2 : ∀ C h, E C h → E' C h) : zMet y cc maxL ret d mc ms as h P' E' := by
  intro l g hl
  exact vx_Met_mono (M l g hl) (fun a s o t ⟨⟨v, h', q1, q2, q3⟩, q4⟩ => ⟨⟨v, h', q1, h1 _ _ q2, q3⟩, q4⟩) (fun C s t ⟨h', q1, q2⟩ => ⟨h', h2 _ _ q1, q2⟩)
def zisC (x : Int32) : Bool := decide (0 ≤ x.toInt) && decide (x.toInt < 8)
theorem zlt {a b : Int32} : a < b ↔ a.toInt < b.toInt := Int32.lt_iff_toInt_lt
theorem zle {a b : Int32} : a ≤ b ↔ a.toInt ≤ b.toInt := Int32.le_iff_toInt_le
theorem zeq {a b : Int32} : a = b ↔ a.toInt = b.toInt := Int32.toInt_inj.symm
theorem znat {x : Int32} (h : 0 ≤ x.toInt) : x = nI x.toInt.toNat := by
  have h2 := Int32.toInt_lt x
  apply Int32.toInt_inj.mp
  rw [nI_toInt (by omega)]
  omega
theorem zisC_nI {x : Int32} (h : zisC x = true) : ∃ c, c < 8 ∧ x = nI c := by
  simp only [zisC, Bool.and_eq_true, decide_eq_true_eq] at h
  exact ⟨x.toInt.toNat, by omega, znat h.1⟩
theorem zmod {m d : Nat} (hm : m < 2 ^ 31) (h0 : 0 < d) (hd : d < 2 ^ 31) : nI m - nI m / nI d * nI d = nI (m % d) := pk_rem hm h0 hd
theorem zmut_of {X : zX} {cc : ByteArray} {own : String} (F : zF zT zN X cc own) {a : Nat} (h : zNR ≤ a) : zmut X a := by
  obtain ⟨p, l, e, R, s, m, args, below, meth, c, Q, g, nL⟩ := X
  obtain ⟨hx, hb, hml, hown, hts, hnw, hK, hO, hg, hlo, htr, hex⟩ := F
  show g.2.2.1.length ≤ a
  rw [hex.1]; exact h
