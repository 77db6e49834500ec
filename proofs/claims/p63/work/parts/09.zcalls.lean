/-! ends of methods, calls, throws of the Z layer -/
section ZE
variable {X : zX} {cc : ByteArray} {own : String} {k n pc d mc ms : Nat} {ls : zL} {st : List Value} {h : zH} {P : Option Value → zH → Prop} {E : String → zH → Prop}

theorem z_ireturn (F : zF zT zN X cc own) {v : Int32} {ty : FieldType} (hn : narrow ty (.int v) = .int v) (B : zB X d k n (some ty) P E) (hd : decode cc pc = .ok (.ireturn, 1)) (hp : P (some (.int v)) h) : Z X k n pc ls [.int v] h := by
  obtain ⟨p, l, e, R, s, m, args, below, meth, c, Q, g, nL⟩ := X
  obtain ⟨hx, hb, hml, hown, hts, hnw, hK, hO, hg, hlo, htr⟩ := F
  obtain ⟨hR, rfl, hr, hxt⟩ := B
  exact fun la H locs hla hP hS => vx_ret (W.zret hx hb hr hn (fun t ht hW => ⟨⟨(some (.int v)), h, rfl, hp, by rw [ht]; exact hP⟩, hS.F ht⟩) hS.2.2 hd)
theorem z_lreturn (F : zF zT zN X cc own) {v : Int64} (B : zB X d k n (some .long) P E) (hd : decode cc pc = .ok (.lreturn, 1)) (hp : P (some (.long v)) h) : Z X k n pc ls [.long v] h := by
  obtain ⟨p, l, e, R, s, m, args, below, meth, c, Q, g, nL⟩ := X
  obtain ⟨hx, hb, hml, hown, hts, hnw, hK, hO, hg, hlo, htr⟩ := F
  obtain ⟨hR, rfl, hr, hxt⟩ := B
  exact fun la H locs hla hP hS => vx_ret (W.lret hx hb hr (fun t ht hW => ⟨⟨(some (.long v)), h, rfl, hp, by rw [ht]; exact hP⟩, hS.F ht⟩) hS.2.2 hd)
theorem z_freturn (F : zF zT zN X cc own) {v : UInt32} (B : zB X d k n (some .float) P E) (hd : decode cc pc = .ok (.freturn, 1)) (hp : P (some (.float v)) h) : Z X k n pc ls [.float v] h := by
  obtain ⟨p, l, e, R, s, m, args, below, meth, c, Q, g, nL⟩ := X
  obtain ⟨hx, hb, hml, hown, hts, hnw, hK, hO, hg, hlo, htr⟩ := F
  obtain ⟨hR, rfl, hr, hxt⟩ := B
  exact fun la H locs hla hP hS => vx_ret (W.fret hx hb hr (fun t ht hW => ⟨⟨(some (.float v)), h, rfl, hp, by rw [ht]; exact hP⟩, hS.F ht⟩) hS.2.2 hd)
theorem z_dreturn (F : zF zT zN X cc own) {v : UInt64} (B : zB X d k n (some .double) P E) (hd : decode cc pc = .ok (.dreturn, 1)) (hp : P (some (.double v)) h) : Z X k n pc ls [.double v] h := by
  obtain ⟨p, l, e, R, s, m, args, below, meth, c, Q, g, nL⟩ := X
  obtain ⟨hx, hb, hml, hown, hts, hnw, hK, hO, hg, hlo, htr⟩ := F
  obtain ⟨hR, rfl, hr, hxt⟩ := B
  exact fun la H locs hla hP hS => vx_ret (W.dret hx hb hr (fun t ht hW => ⟨⟨(some (.double v)), h, rfl, hp, by rw [ht]; exact hP⟩, hS.F ht⟩) hS.2.2 hd)
theorem z_areturn (F : zF zT zN X cc own) {v : Nat} {rt : FieldType} (hn : (∃ n, rt = .object n) ∨ ∃ t, rt = .array t) (B : zB X d k n (some rt) P E) (hd : decode cc pc = .ok (.areturn, 1)) (hp : P (some (.ref v)) h) : Z X k n pc ls [.ref v] h := by
  obtain ⟨p, l, e, R, s, m, args, below, meth, c, Q, g, nL⟩ := X
  obtain ⟨hx, hb, hml, hown, hts, hnw, hK, hO, hg, hlo, htr⟩ := F
  obtain ⟨hR, rfl, hr, hxt⟩ := B
  exact fun la H locs hla hP hS => vx_ret (W.aret hx hb hr hn (Or.inr ⟨_, rfl⟩) (fun t ht hW => ⟨⟨(some (.ref v)), h, rfl, hp, by rw [ht]; exact hP⟩, hS.F ht⟩) hS.2.2 hd)
theorem z_return (F : zF zT zN X cc own) (B : zB X d k n none P E) (hd : decode cc pc = .ok (.return_, 1)) (hp : P none h) : Z X k n pc ls [] h := by
  obtain ⟨p, l, e, R, s, m, args, below, meth, c, Q, g, nL⟩ := X
  obtain ⟨hx, hb, hml, hown, hts, hnw, hK, hO, hg, hlo, htr⟩ := F
  obtain ⟨hR, rfl, hr, hxt⟩ := B
  exact fun la H locs hla hP hS => vx_ret (W.vret hx hb hr (fun t ht hW => ⟨⟨none, h, rfl, hp, by rw [ht]; exact hP⟩, hS.F ht⟩) hS.2.2 hd)
theorem zRecv {g : zG} {s : State} {h : zH} {H : Heap} {locs : List Loc} {a ci : Nat} {fs : List Value} {r : vw_C} (hP : zP g h H) (hS : va_S (zA g) s.heap H locs) (hK : va_K g.2.2.2.1 zCl (zTys g) s) (hO : zRO g s s.heap) (hc : h[a]? = some (ci, fs)) (hci : ci < 90) (hr : zCl[ci]? = some r) : ∃ cell : Cell, H[zq g a]? = some cell ∧ cell.vm.isStatics = false ∧ s.vm.findClass r.1 = some cell.cls := by
  by_cases ha : a < g.2.2.1.length
  · obtain ⟨r', h1, h2, -⟩ := (hO a _ (zP_ro hP hc ha)).2 (by show ci < 90; omega)
    have hrr : r' = r := Option.some.inj (h1.symm.trans hr)
    subst hrr
    obtain ⟨cell, f1, f2, f3, f4⟩ := h2
    have hz : zq g a = g.2.1 a := by simp [zq, ha]
    exact ⟨cell, by rw [hz, hS.2.1 _ (Array.getElem?_eq_some_iff.mp f1).1 f4]; exact f1, f2, f3⟩
  · have h4 := zP_at hP hc (Nat.not_lt.mp ha) (by show ci ≠ 98; omega)
    rw [zE_obj g (by omega)] at h4
    exact va_recv hK (zP1 h4) (q0 := 0) hr rfl
theorem z_core {p : Program} {l : Launch} {e : Env} {R : Room} {s : State} {m : MethodId} {args : Array Value} {below : List Frame} {meth : Method} {c : Code} {Q : State → Prop} {g : zG} {nL mc2 ms2 : Nat} {rest : List Value} {P2 : Option Value → zH → Prop} {E2 : String → zH → Prop} {a : Array Value}
    (hr : ∀ (la : Array Slot) (H : Heap) (locs : List Loc), lv_has la nL (zpl g ls) → zP g h H → va_S (zA g) s.heap H locs → vx_Run p l e R s m args below meth c H locs k n mc2 ms2 (F0 m pc la (st.map (zv g))) (rest.map (zv g)) (zQ g P2 a) (zXC g E2) (zA g))
    (K : ∀ v h', P2 v h' → Z (p, l, e, R, s, m, args, below, meth, c, Q, g, nL) (k + mc2) (n + ms2) (pc + 3) ls (v.toList ++ rest) h')
    (KX : ∀ (C : String) (h' : zH), E2 C h' → ∀ (la : Array Slot) (H : Heap) (locs : List Loc) (q : Addr) (ce : Cell), lv_has la nL (zpl g ls) → zP g h' H → va_S (zA g) s.heap H locs → H[q]? = some ce → ce.vm = .none → s.vm.findClass C = some ce.cls → vx_W p l e R s m args below meth c H locs (k + mc2) (n + ms2) Q (F0 m pc la (rest.map (zv g))) q) : Z (p, l, e, R, s, m, args, below, meth, c, Q, g, nL) k n pc ls st h := by
  intro la H locs hla hP hS T hT X
  rcases hr la H locs hla hP hS T hT X with ⟨v, st₀, t, T', L, h0, X', hL, e1, e2, ⟨⟨v2, h', hv, hp, hb⟩, hF⟩, st2⟩ | ⟨q, st₀, t, T', L, E, ce, h0, X', hL, e1, e2, ⟨h', hp, hb, hF⟩, hce, hcv, hcl, st2⟩
  · have hv : v = v2.map (zv g) := by simpa using hv
    subst hv
    obtain ⟨k1, k2, k3⟩ := vx_keep h0 e1 hS (fun _ _ z => z) (fun _ z => z) hL hF
    have K2 := K v2 h' hp la T'.heap (locs ++ L) hla (by rw [e1]; exact hb) k3
    have hm : (v2.toList ++ rest).map (zv g) = (v2.map (zv g)).toList ++ rest.map (zv g) := by cases v2 <;> simp
    rw [hm] at K2
    obtain ⟨t2, a1, b1⟩ := K2 T' rfl X'
    exact ⟨t2, st2 t2 a1, b1⟩
  · obtain ⟨k1, k2, k3⟩ := vx_keep h0 e1 hS (fun _ _ z => z) (fun _ z => z) hL hF
    obtain ⟨t2, a1, b1⟩ := KX E h' hp la T'.heap (locs ++ L) q ce hla (by rw [e1]; exact hb) k3 (by rw [e1]; exact hce) hcv hcl T' rfl X'
    exact ⟨t2, st2.trans a1, b1⟩
/-- what a callee's name and code are -/
def zCal (y : MethodName) (cc : ByteArray) (maxL : Nat) (ret : Option FieldType) (np : Nat) : Prop := Cond.code y cc maxL ret ∈ zT ∧ Cond.initialized y.cls ∈ zT ∧ (y.cls ≠ "java/lang/invoke/MethodHandle" ∧ y.cls ≠ "java/lang/invoke/VarHandle" ∧ (parseMethodDescriptor y.desc).map (fun d => d.parameters.length) = some np) ∧ maxL ≤ 41
theorem zRm_ok {d d2 mc ms mc2 ms2 maxL : Nat} (hd : d2 + 1 ≤ d) (hm : maxL ≤ 41) : (zRm d2 mc2 ms2).frames + 1 ≤ (zRm d mc ms).frames ∧ 8 + (maxL + 11) + (zRm d2 mc2 ms2).locals ≤ (zRm d mc ms).locals := by
  refine ⟨hd, ?_⟩
  show 8 + (maxL + 11) + 60 * d2 ≤ 60 * d
  omega
theorem zrest_ok {g : zG} {rest : List Value} (hr : (rest.map (fun v => v.category)).sum ≤ 8) : ((rest.map (zv g)).map (fun v => v.category)).sum ≤ 8 := by
  rw [List.map_map]
  have : ((fun v => Value.category v) ∘ zv g) = (fun v => Value.category v) := funext fun v => zv_cat g v
  rw [this]; exact hr
theorem zX_out {p : Program} {l : Launch} {e : Env} {R : Room} {s : State} {m : MethodId} {args : Array Value} {below : List Frame} {meth : Method} {c : Code} {g : zG} {H : Heap} {locs : List Loc} {la : Array Slot} {rest : List Value} {k n : Nat} {C : String} {q : Addr} {ce : Cell} {h' : zH} (hxt : ∀ x ∈ c.exceptionTable.toList, False) (hlo : meth.locks = false) (he : E C h') (hP : zP g h' H) (hS : va_S (zA g) s.heap H locs) (hc : H[q]? = some ce) (hv : ce.vm = .none) (hcl : s.vm.findClass C = some ce.cls) (h1 : k ≤ mc) (h2 : n ≤ ms) :
    vx_W p l e R s m args below meth c H locs k n (vx_MQ below (zQ g P) (zXC g E) args s mc ms (zA g)) (F0 m pc la rest) q :=
  vx_out (fun x hx => (hxt x hx).elim) hlo hc hv hcl (fun t ht hal => ⟨h', he, by rw [ht]; exact hP, hS.F ht⟩) hS.2.2 h1 h2

theorem z_callS {y : MethodName} {c2 : ByteArray} {maxL2 np d2 mc2 ms2 index : Nat} {ret ret2 : Option FieldType} {as rest : List Value} {P2 : Option Value → zH → Prop} {E2 : String → zH → Prop} (F : zF zT zN X cc own) (B : zB X d mc ms ret P E) (C : zCal y c2 maxL2 ret2 np) (M : zMet y c2 maxL2 ret2 d2 mc2 ms2 as h P2 E2) (hd : decode cc pc = .ok (.invokestatic index, 3)) (hst : st = as.reverse ++ rest) (hn : as.length = np) (hre : (rest.map (fun v => v.category)).sum ≤ 8) (hd2 : d2 + 1 ≤ d) (hmc : k + mc2 ≤ mc) (hms : n + ms2 ≤ ms) (hlk : Cond.methodLink own index y ∈ zT) (hstt : Cond.static y ∈ zT) (K : ∀ v h', P2 v h' → Z X (k + mc2) (n + ms2) (pc + 3) ls (v.toList ++ rest) h') (KX : ∀ C h', E2 C h' → E C h') : Z X k n pc ls st h := by
  obtain ⟨p, l, e, R, s, m, args, below, meth, c, Q, g, nL⟩ := X
  have F0' := F
  obtain ⟨hx, hb, hml, hown, hts, hnw, hK, hO, hg, hlo, htr, hex⟩ := F
  obtain ⟨hR, rfl, hr, hxt⟩ := B
  obtain ⟨c1, c3, c4, c5⟩ := C
  subst hR
  refine z_core (mc2 := mc2) (ms2 := ms2) (rest := rest) (P2 := P2) (E2 := E2) (a := (as.map (zv g)).toArray) (fun la H locs hla hP hS => ?_) K (fun C h' he la H locs q ce hla hP hS hc hv hcl => zX_out hxt hlo (KX C h' he) hP hS hc hv hcl hmc hms)
  subst hst
  refine vx_runS (As := as.map (zv g)) ⟨hx, hb, hml, hown, hts⟩ (M l g htr) ⟨(callB_of np hts (zW_good c1) rfl rfl rfl (hts _ c3) (hts _ hlk) c4 (zRm_ok hd2 c5)), hts _ hstt⟩ ⟨zWld_blind, fun U hU hW => ⟨rfl, zWld_to hK hO hg hnw hex hP hS hU hW⟩⟩ rfl (by rw [List.length_map]; exact hn) hla.1 (by simp [zv]) (by show 2 * 0 + _ ≤ 8; rw [Nat.mul_zero, Nat.zero_add]; exact zrest_ok hre) hd ⟨hmc, hms⟩
theorem z_callSN {y : MethodName} {c2 : ByteArray} {maxL2 np d2 mc2 ms2 index : Nat} {ret ret2 : Option FieldType} {as rest : List Value} {P2 : Option Value → zH → Prop} {E2 : String → zH → Prop} (F : zF zT zN X cc own) (B : zB X d mc ms ret P E) (C : zCal y c2 maxL2 ret2 np) (M : zMet y c2 maxL2 ret2 d2 mc2 ms2 as h P2 E2) (hd : decode cc pc = .ok (.invokestatic index, 3)) (hst : st = as.reverse ++ rest) (hn : as.length = np) (hre : (rest.map (fun v => v.category)).sum ≤ 8) (hd2 : d2 + 1 ≤ d) (hmc : k + mc2 ≤ mc) (hms : n + ms2 ≤ ms) {host : String} (hlk : Cond.methodLinkNest own index y host ∈ zN) (hstt : Cond.static y ∈ zT) (K : ∀ v h', P2 v h' → Z X (k + mc2) (n + ms2) (pc + 3) ls (v.toList ++ rest) h') (KX : ∀ C h', E2 C h' → E C h') : Z X k n pc ls st h := by
  obtain ⟨p, l, e, R, s, m, args, below, meth, c, Q, g, nL⟩ := X
  have F0' := F
  obtain ⟨hx, hb, hml, hown, hts, hnw, hK, hO, hg, hlo, htr, hex⟩ := F
  obtain ⟨hR, rfl, hr, hxt⟩ := B
  obtain ⟨c1, c3, c4, c5⟩ := C
  subst hR
  refine z_core (mc2 := mc2) (ms2 := ms2) (rest := rest) (P2 := P2) (E2 := E2) (a := (as.map (zv g)).toArray) (fun la H locs hla hP hS => ?_) K (fun C h' he la H locs q ce hla hP hS hc hv hcl => zX_out hxt hlo (KX C h' he) hP hS hc hv hcl hmc hms)
  subst hst
  refine vx_runSN (As := as.map (zv g)) ⟨hx, hb, hml, hown, hts⟩ (M l g htr) ⟨(va_cnB np hts (zW_good c1) rfl rfl rfl (hnw _ hlk) (hts _ c3) c4 (zRm_ok hd2 c5)), hts _ hstt, trivial⟩ ⟨zWld_blind, fun U hU hW => ⟨rfl, zWld_to hK hO hg hnw hex hP hS hU hW⟩⟩ rfl (by rw [List.length_map]; exact hn) hla.1 (by simp [zv]) (by show 2 * 0 + _ ≤ 8; rw [Nat.mul_zero, Nat.zero_add]; exact zrest_ok hre) hd ⟨hmc, hms⟩
theorem z_callV {y : MethodName} {c2 : ByteArray} {maxL2 np d2 mc2 ms2 index b : Nat} {ret ret2 : Option FieldType} {as rest : List Value} {P2 : Option Value → zH → Prop} {E2 : String → zH → Prop} (F : zF zT zN X cc own) (B : zB X d mc ms ret P E) (C : zCal y c2 maxL2 ret2 np) (M : zMet y c2 maxL2 ret2 d2 mc2 ms2 (.ref b :: as) h P2 E2) (hd : decode cc pc = .ok (.invokevirtual index, 3)) (hst : st = as.reverse ++ .ref b :: rest) (hn : as.length = np) (hre : (rest.map (fun v => v.category)).sum ≤ 8) (hd2 : d2 + 1 ≤ d) (hmc : k + mc2 ≤ mc) (hms : n + ms2 ≤ ms) (hlk : Cond.methodLink own index y ∈ zT) (hin : Cond.instanceMethod y ∈ zT) (hse : Cond.selects y.cls y y ∈ zT) {ci : Nat} {fs : List Value} {r : vw_C} (hcr : h[b]? = some (ci, fs)) (hci : ci < 90) (hcr2 : zCl[ci]? = some r) (hyc : r.1 = y.cls) (K : ∀ v h', P2 v h' → Z X (k + mc2) (n + ms2) (pc + 3) ls (v.toList ++ rest) h') (KX : ∀ C h', E2 C h' → E C h') : Z X k n pc ls st h := by
  obtain ⟨p, l, e, R, s, m, args, below, meth, c, Q, g, nL⟩ := X
  have F0' := F
  obtain ⟨hx, hb, hml, hown, hts, hnw, hK, hO, hg, hlo, htr, hex⟩ := F
  obtain ⟨hR, rfl, hr, hxt⟩ := B
  obtain ⟨c1, c3, c4, c5⟩ := C
  subst hR
  refine z_core (mc2 := mc2) (ms2 := ms2) (rest := rest) (P2 := P2) (E2 := E2) (a := ((.ref b :: as).map (zv g)).toArray) (fun la H locs hla hP hS => ?_) K (fun C h' he la H locs q ce hla hP hS hc hv hcl => zX_out hxt hlo (KX C h' he) hP hS hc hv hcl hmc hms)
  subst hst
  refine vx_runV (C := r.1) (As := as.map (zv g)) ⟨hx, hb, hml, hown, hts⟩ (M l g htr) ⟨(callB_of np hts (zW_good c1) rfl rfl rfl (hts _ c3) (hts _ hlk) c4 (zRm_ok hd2 c5)), hts _ hin, by rw [hyc]; exact hts _ hse⟩ ⟨zWld_blind, zRecv hP hS hK hO hcr hci hcr2, fun U hU hW => ⟨rfl, zWld_to hK hO hg hnw hex hP hS hU hW⟩⟩ rfl (by rw [List.length_map]; exact hn) hla.1 (by simp [zv]) (by show 2 * 0 + _ ≤ 8; rw [Nat.mul_zero, Nat.zero_add]; exact zrest_ok hre) hd ⟨hmc, hms⟩
theorem z_callI {y : MethodName} {c2 : ByteArray} {maxL2 np d2 mc2 ms2 index b : Nat} {ret : Option FieldType} {as rest : List Value} {P2 : Option Value → zH → Prop} {E2 : String → zH → Prop} (F : zF zT zN X cc own) (B : zB X d mc ms ret P E) (C : zCal y c2 maxL2 none np) (M : zMet y c2 maxL2 none d2 mc2 ms2 (.ref b :: as) h P2 E2) (hd : decode cc pc = .ok (.invokespecial index, 3)) (hst : st = as.reverse ++ .ref b :: rest) (hn : as.length = np) (hre : (rest.map (fun v => v.category)).sum ≤ 8) (hd2 : d2 + 1 ≤ d) (hmc : k + mc2 ≤ mc) (hms : n + ms2 ≤ ms) (hlk : Cond.methodLink own index y ∈ zT) (hin : Cond.instanceMethod y ∈ zT) (hy1 : y.name = "<init>") (K : ∀ v h', P2 v h' → Z X (k + mc2) (n + ms2) (pc + 3) ls (v.toList ++ rest) h') (KX : ∀ C h', E2 C h' → E C h') : Z X k n pc ls st h := by
  obtain ⟨p, l, e, R, s, m, args, below, meth, c, Q, g, nL⟩ := X
  have F0' := F
  obtain ⟨hx, hb, hml, hown, hts, hnw, hK, hO, hg, hlo, htr, hex⟩ := F
  obtain ⟨hR, rfl, hr, hxt⟩ := B
  obtain ⟨c1, c3, c4, c5⟩ := C
  subst hR
  refine z_core (mc2 := mc2) (ms2 := ms2) (rest := rest) (P2 := P2) (E2 := E2) (a := ((.ref b :: as).map (zv g)).toArray) (fun la H locs hla hP hS => ?_) K (fun C h' he la H locs q ce hla hP hS hc hv hcl => zX_out hxt hlo (KX C h' he) hP hS hc hv hcl hmc hms)
  subst hst
  refine vx_runI (As := as.map (zv g)) ⟨hx, hb, hml, hown, hts⟩ (M l g htr) ⟨(callB_of np hts (zW_good c1) rfl rfl rfl (hts _ c3) (hts _ hlk) c4 (zRm_ok hd2 c5)), hy1, hts _ hin⟩ ⟨zWld_blind, fun U hU hW => ⟨rfl, zWld_to hK hO hg hnw hex hP hS hU hW⟩⟩ rfl (by rw [List.length_map]; exact hn) hla.1 (by simp [zv]) (by show 2 * 0 + _ ≤ 8; rw [Nat.mul_zero, Nat.zero_add]; exact zrest_ok hre) hd ⟨hmc, hms⟩
theorem z_callIN {y : MethodName} {c2 : ByteArray} {maxL2 np d2 mc2 ms2 index b : Nat} {ret : Option FieldType} {as rest : List Value} {P2 : Option Value → zH → Prop} {E2 : String → zH → Prop} (F : zF zT zN X cc own) (B : zB X d mc ms ret P E) (C : zCal y c2 maxL2 none np) (M : zMet y c2 maxL2 none d2 mc2 ms2 (.ref b :: as) h P2 E2) (hd : decode cc pc = .ok (.invokespecial index, 3)) (hst : st = as.reverse ++ .ref b :: rest) (hn : as.length = np) (hre : (rest.map (fun v => v.category)).sum ≤ 8) (hd2 : d2 + 1 ≤ d) (hmc : k + mc2 ≤ mc) (hms : n + ms2 ≤ ms) {host : String} (hlk : Cond.methodLinkNest own index y host ∈ zN) (hin : Cond.instanceMethod y ∈ zT) (hy1 : y.name = "<init>") (K : ∀ v h', P2 v h' → Z X (k + mc2) (n + ms2) (pc + 3) ls (v.toList ++ rest) h') (KX : ∀ C h', E2 C h' → E C h') : Z X k n pc ls st h := by
  obtain ⟨p, l, e, R, s, m, args, below, meth, c, Q, g, nL⟩ := X
  have F0' := F
  obtain ⟨hx, hb, hml, hown, hts, hnw, hK, hO, hg, hlo, htr, hex⟩ := F
  obtain ⟨hR, rfl, hr, hxt⟩ := B
  obtain ⟨c1, c3, c4, c5⟩ := C
  subst hR
  refine z_core (mc2 := mc2) (ms2 := ms2) (rest := rest) (P2 := P2) (E2 := E2) (a := ((.ref b :: as).map (zv g)).toArray) (fun la H locs hla hP hS => ?_) K (fun C h' he la H locs q ce hla hP hS hc hv hcl => zX_out hxt hlo (KX C h' he) hP hS hc hv hcl hmc hms)
  subst hst
  refine vx_runIN (As := as.map (zv g)) ⟨hx, hb, hml, hown, hts⟩ (M l g htr) ⟨(va_cnB np hts (zW_good c1) rfl rfl rfl (hnw _ hlk) (hts _ c3) c4 (zRm_ok hd2 c5)), hy1, hts _ hin⟩ ⟨zWld_blind, fun U hU hW => ⟨rfl, zWld_to hK hO hg hnw hex hP hS hU hW⟩⟩ rfl (by rw [List.length_map]; exact hn) hla.1 (by simp [zv]) (by show 2 * 0 + _ ≤ 8; rw [Nat.mul_zero, Nat.zero_add]; exact zrest_ok hre) hd ⟨hmc, hms⟩
theorem z_objInit (F : zF zT zN X cc own) {index a : Nat} (hd : decode cc pc = .ok (.invokespecial index, 3)) (hlk : Cond.methodLink own index Lib.objectInit ∈ zT) (hin : Cond.instanceMethod Lib.objectInit ∈ zT) (hco : Cond.code Lib.objectInit ⟨#[0xb1]⟩ 1 none ∈ zT) (hR : X.2.2.2.1 = zRm d mc ms) (hd1 : 1 ≤ d) (hre : (st.map (fun v => v.category)).sum ≤ 8) (K : Z X k n (pc + 3) ls st h) : Z X k n pc ls (.ref a :: st) h := by
  obtain ⟨p, l, e, R, s, m, args, below, meth, c, Q, g, nL⟩ := X
  obtain ⟨hx, hb, hml, hown, hts, hnw, hK, hO, hg, hlo, htr, hex⟩ := F
  have hR : R = zRm d mc ms := hR
  subst hR
  intro la H locs hla hP hS
  refine W.objInit hx hb hown (hts _ hlk) (hts _ hin) (hts _ hco) rfl (by rw [hml]; exact hla.1) rfl hd (show 1 ≤ d from hd1) ?_ (K la H locs hla hP hS)
  have h9 := zrest_ok (g := g) hre
  show 2 * 0 + _ + 12 ≤ 60 * d
  omega
end ZE
