/-! calls over a tall stack -/
section WRV
variable {p : Program} {l : Launch} {e : Env} {R : Room} {s : State} {m : MethodId} {args : Array Value} {below : List Frame} {meth : Method} {c : Code} {H : Heap} {locs : List Loc} {cells slots : Nat}
variable {y : MethodName} {bytes cc : ByteArray} {maxL nL mc ms n index : Nat} {ret : Option FieldType} {ws : List Cond} {rm : Room} {Pc : Array Value → State → Prop} {Qc : Array Value → State → Outcome → State → Prop} {XC : String → State → State → Prop} {free : Addr → Prop} {Ts : List Cond} {own C : String} {b : Addr} {As rest : List Value} {g : JFrame}
theorem vx_runVw (hlo20 : 20 + (maxL + 11) + rm.locals ≤ R.locals) (S : CallFix p m c cc nL s args Ts own) (hM : vx_Met l y ws rm Pc Qc XC mc ms free) (cw : CallW R s args own C index y bytes maxL ret ws rm mc ms n) (hp : PreV s H C b Pc As)
    (hg : g.method = m) (hn : As.length = n) (hsize : g.locals.size = nL) (hstack : g.stack = As.reverse ++ .ref b :: rest) (hW : 2 * g.monitorRoom + (rest.map fun v => v.category).sum ≤ 20) (hdg : decode cc g.pc = .ok (.invokevirtual index, 3)) (hf : cells + mc ≤ R.cells ∧ slots + ms ≤ R.slots) :
    vx_Run p l e R s m args below meth c H locs cells slots mc ms g rest (Qc (Value.ref b :: As).toArray) XC free := by
  have hK : vx_Back l R p e below s args y 3 20 (PreOf R mc ms Pc) (PostOf Qc mc ms free) (vx_Post XC mc ms free) := by
    obtain ⟨hrc, hrs, hfr, hlo, hws, hcw, -, hini, -⟩ := cw.1
    exact vx_back (bytes := bytes) (maxL := maxL) (ret := ret) hM hp.1 hrc hrs hfr hlo20 hws hcw (fun a' U hW => word_at hW (Or.inl (by first | rfl | simp [Cond.onTables, Cond.keeps, Cond.steady])) hini)
  obtain ⟨⟨-, -, -, -, -, -, hcode, -, hy, hlen, hl⟩, hin, hse⟩ := cw
  obtain ⟨hx, hb, hml, ho, -⟩ := S
  obtain ⟨-, ⟨cellB, hcB, hoB, hclB⟩, hPc⟩ := hp
  intro T hT X
  rcases vx_callV X hx (C := C) (bytes := bytes) (maxL := maxL) (ret := ret) ho hl hin hse hcode hy hK (by rw [hT]; exact hcB) hoB hclB hg (hsize.trans hml.symm) (argsL := As) (rest := rest) (fun sig h => hn.trans (hlen sig h)) hstack hW (by rw [hb]; exact hdg)
    (fun vm₁ hW₁ => ⟨hf.1, hf.2, hPc (T.setVm vm₁) hT hW₁⟩) with ⟨v, vm₁, ⟨U', l2, c2, s2⟩, hW₁, X', ⟨g', mk, t, L, e1, e2, hq, h1, hL, h2, h3⟩, st⟩ | ⟨q, vm₁, ⟨U', l2, c2, s2⟩, hW₁, X', ⟨g', mk, t, L, E, ce, e1, e2, hq, hce, hcv, hcl, h1, hL, h2, h3⟩, st⟩
  · dsimp only [Pt.U, Pt.locs, Pt.cells, Pt.slots] at X' e1 e2 h1 h2 h3 st
    subst h1; subst h2; subst h3
    exact Or.inl ⟨v, (T.setVm vm₁).calling g' mk (Value.ref b :: As).toArray, t, U', L, hT, X', hL, e1, e2, hq, st⟩
  · dsimp only [Pt.U, Pt.locs, Pt.cells, Pt.slots] at X' e1 e2 h1 h2 h3 st hcl
    subst h1; subst h2; subst h3
    exact Or.inr ⟨q, (T.setVm vm₁).calling g' mk (Value.ref b :: As).toArray, t, U', L, E, ce, hT, X', hL, e1, e2, hq, hce, hcv, vx_cls hW₁ hcl, st⟩
end WRV
section WZ
variable {X : zX} {cc : ByteArray} {own : String} {k n pc d mc ms : Nat} {ls : zL} {st : List Value} {h : zH} {P : Option Value → zH → Prop} {E : String → zH → Prop}
theorem z_callVw {y : MethodName} {c2 : ByteArray} {maxL2 np d2 mc2 ms2 index b : Nat} {ret ret2 : Option FieldType} {as rest : List Value} {P2 : Option Value → zH → Prop} {E2 : String → zH → Prop} (F : zF zT zN X cc own) (B : zB X d mc ms ret P E) (C : zCal y c2 maxL2 ret2 np) (M : zMet y c2 maxL2 ret2 d2 mc2 ms2 (.ref b :: as) h P2 E2) (hd : decode cc pc = .ok (.invokevirtual index, 3)) (hst : st = as.reverse ++ .ref b :: rest) (hn : as.length = np) (hre : (rest.map (fun v => v.category)).sum ≤ 20) (hm20 : maxL2 ≤ 20) (hd2 : d2 + 1 ≤ d) (hmc : k + mc2 ≤ mc) (hms : n + ms2 ≤ ms) (hlk : Cond.methodLink own index y ∈ zT) (hin : Cond.instanceMethod y ∈ zT) (hse : Cond.selects y.cls y y ∈ zT) {ci : Nat} {fs : List Value} {r : vw_C} (hcr : h[b]? = some (ci, fs)) (hci : ci < 90) (hcr2 : zCl[ci]? = some r) (hyc : r.1 = y.cls) (K : ∀ v h', P2 v h' → Z X (k + mc2) (n + ms2) (pc + 3) ls (v.toList ++ rest) h') (KX : ∀ C h', E2 C h' → E C h') : Z X k n pc ls st h := by
  obtain ⟨p, l, e, R, s, m, args, below, meth, c, Q, g, nL⟩ := X
  have F0' := F
  obtain ⟨hx, hb, hml, hown, hts, hnw, hK, hO, hg, hlo, htr, hex⟩ := F
  obtain ⟨hR, rfl, hr, hxt⟩ := B
  obtain ⟨c1, c3, c4, c5⟩ := C
  subst hR
  refine z_core (mc2 := mc2) (ms2 := ms2) (rest := rest) (P2 := P2) (E2 := E2) (a := ((.ref b :: as).map (zv g)).toArray) (fun la H locs hla hP hS => ?_) K (fun C h' he la H locs q ce hla hP hS hc hv hcl => zX_out hxt hlo (KX C h' he) hP hS hc hv hcl hmc hms)
  subst hst
  refine vx_runVw (by show 20 + (maxL2 + 11) + 60 * d2 ≤ 60 * d; omega) (C := r.1) (As := as.map (zv g)) ⟨hx, hb, hml, hown, hts⟩ (M l g htr) ⟨(callB_of np hts (zW_good c1) rfl rfl rfl (hts _ c3) (hts _ hlk) c4 (zRm_ok hd2 c5)), hts _ hin, by rw [hyc]; exact hts _ hse⟩ ⟨zWld_blind, zRecv hP hS hK hO hcr hci hcr2, fun U hU hW => ⟨rfl, zWld_to hK hO hg hnw hex hP hS hU hW⟩⟩ rfl (by rw [List.length_map]; exact hn) hla.1 (by simp [zv]) (by show 2 * 0 + _ ≤ 20; rw [Nat.mul_zero, Nat.zero_add, List.map_map, show ((fun v => Value.category v) ∘ zv g) = (fun v => Value.category v) from funext fun v => zv_cat g v]; exact hre) hd ⟨hmc, hms⟩
end WZ
