/-! rows that make cells -/
theorem znewc {h : zH} {c : zC} {a : Nat} (hl : h.length = a) : (h ++ [c])[a]? = some c := by
  subst hl
  rw [List.getElem?_append_right (Nat.le_refl _), Nat.sub_self]
  rfl
theorem zlen1 {h : zH} {c : zC} {a : Nat} (hl : h.length = a) : (h ++ [c]).length = a + 1 := by rw [List.length_append, hl]; rfl
theorem zlens {h : zH} {c : zC} {a b : Nat} (hl : h.length = a) : (h.set b c).length = a := by rw [List.length_set]; exact hl
section ZALLOC
variable {X : zX} {cc : ByteArray} {own : String} {k n pc : Nat} {ls : zL} {st : List Value} {h : zH}
theorem zi_newarray (F : zF zT zN X cc own) {atype : ArrayType} {kd m a : Nat} {z : Int} {dv : Value} (hd : decode cc pc = .ok (.newarray atype, 2)) (hw : Cond.arrayClass (newarray.typeOf atype) ∈ zT) (hk : 100 ≤ kd) (ht : kd - 100 < 9) (hty : newarray.typeOf atype = zTy.getD (kd - 100) .int) (hnr : (zTy.getD (kd - 100) .int).isReference = false) (hnf : zTy.getD (kd - 100) .int ≠ .float) (hdv : defaultValue (zTy.getD (kd - 100) .int) = dv) (hcb : componentBytes (newarray.typeOf atype) ≤ 8) (hl : h.length = a) (hz : z = (m : Int)) (hm : m ≤ 1000) (hkc : k + 1 ≤ X.2.2.2.1.cells) (hn : n + m ≤ X.2.2.2.1.slots) (K : Z X (k + 1) (n + m) (pc + 2) ls (.ref a :: st) (h ++ [(kd, zar m (fun _ => dv))])) : Z X k n pc ls (.int (iI z) :: st) h := by
  have e : (iI z).toNatClampNeg = m := iI_clamp hz (by omega)
  subst hl
  refine z_newarray F hd hw hk ht hty hnr hnf (iI_nneg hz (by omega)) ?_ hkc (by rw [e]; exact hn) (by rw [e, hdv, zar_rep]; exact K)
  rw [e]
  exact Nat.le_trans (Nat.mul_le_mul hm hcb) (by decide)
theorem zi_anewarray (F : zF zT zN X cc own) {C : String} {index kd m a : Nat} {z : Int} (hd : decode cc pc = .ok (.anewarray index, 3)) (hw : Cond.classLink own index C ∈ zT) (hC : C ∈ zAOs) (hk : 100 ≤ kd) (ht : kd - 100 < 9) (hty : zTy.getD (kd - 100) .int = .object C) (hl : h.length = a) (hz : z = (m : Int)) (hm : m ≤ 1000) (hkc : k + 1 ≤ X.2.2.2.1.cells) (hn : n + m ≤ X.2.2.2.1.slots) (K : Z X (k + 1) (n + m) (pc + 3) ls (.ref a :: st) (h ++ [(kd, zar m (fun _ => .null))])) : Z X k n pc ls (.int (iI z) :: st) h := by
  have e : (iI z).toNatClampNeg = m := iI_clamp hz (by omega)
  subst hl
  refine z_anewarray F hd hw (fun p l e R s m args below meth c Q g nL eX => by subst eX; exact F.2.2.2.2.2.2.2.2.2.2.2.2.1 C hC) hk ht hty (iI_nneg hz (by omega)) (by rw [e]; omega) hkc (by rw [e]; exact hn) (by rw [e, zar_rep]; exact K)
theorem zi_new (F : zF zT zN X cc own) {index ci a : Nat} {fs : List Value} (L : zNew zT own index ci fs) (hd : decode cc pc = .ok (.new index, 3)) (hf : ∀ g : zG, fs.map (zv g) = fs) (hl : h.length = a) (hk : k + 1 ≤ X.2.2.2.1.cells) (hn : n + fs.length ≤ X.2.2.2.1.slots) (K : Z X (k + 1) (n + fs.length) (pc + 3) ls (.ref a :: st) (h ++ [(ci, fs)])) : Z X k n pc ls st h := by
  subst hl
  exact z_new F L hd hf hk hn K
theorem zi_newW (F : zF zT zN X cc own) {index ci a w : Nat} {fs : List Value} (L : zNew zT own index ci fs) (hd : decode cc pc = .ok (.new index, 3)) (hf : ∀ g : zG, fs.map (zv g) = fs) (hl : h.length = a) (hw : fs.length = w) (hk : k + 1 ≤ X.2.2.2.1.cells) (hn : n + w ≤ X.2.2.2.1.slots) (K : Z X (k + 1) (n + w) (pc + 3) ls (.ref a :: st) (h ++ [(ci, fs)])) : Z X k n pc ls st h := by
  subst hw
  exact zi_new F L hd hf hl hk hn K
end ZALLOC
def fs_X2 : List Value := [.null, .null, .null, .int 0, .int 0, .int 0, .int 0, .int 0, .int 0, .int 0]
theorem fd_X2 : ∀ j, j < fs_X2.length → defaultValue (tyX2 j) = vp_V fs_X2 j := by
  intro j hj
  have hj : j < 10 := hj
  rcases (show j = 0 ∨ j = 1 ∨ j = 2 ∨ j = 3 ∨ j = 4 ∨ j = 5 ∨ j = 6 ∨ j = 7 ∨ j = 8 ∨ j = 9 by omega) with rfl | rfl | rfl | rfl | rfl | rfl | rfl | rfl | rfl | rfl <;> rfl
theorem fg_X2 (g : zG) : fs_X2.map (zv g) = fs_X2 := rfl
def fs_X7 : List Value := [.int 0, .int 0, .int 0, .int 0, .int 0]
theorem fd_X7 : ∀ j, j < fs_X7.length → defaultValue (tyX7 j) = vp_V fs_X7 j := by
  intro j hj
  have hj : j < 5 := hj
  rcases (show j = 0 ∨ j = 1 ∨ j = 2 ∨ j = 3 ∨ j = 4 by omega) with rfl | rfl | rfl | rfl | rfl <;> rfl
theorem fg_X7 (g : zG) : fs_X7.map (zv g) = fs_X7 := rfl
def fs_X8 : List Value := [.int 0, .int 0, .int 0, .int 0, .int 0]
theorem fd_X8 : ∀ j, j < fs_X8.length → defaultValue (tyX8 j) = vp_V fs_X8 j := by
  intro j hj
  have hj : j < 5 := hj
  rcases (show j = 0 ∨ j = 1 ∨ j = 2 ∨ j = 3 ∨ j = 4 by omega) with rfl | rfl | rfl | rfl | rfl <;> rfl
theorem fg_X8 (g : zG) : fs_X8.map (zv g) = fs_X8 := rfl
def fs_X6 : List Value := [.null, .null, .int 0, .int 0]
theorem fd_X6 : ∀ j, j < fs_X6.length → defaultValue (tyX6 j) = vp_V fs_X6 j := by
  intro j hj
  have hj : j < 4 := hj
  rcases (show j = 0 ∨ j = 1 ∨ j = 2 ∨ j = 3 by omega) with rfl | rfl | rfl | rfl <;> rfl
theorem fg_X6 (g : zG) : fs_X6.map (zv g) = fs_X6 := rfl
def fs_X9 : List Value := [.null, .null, .null, .null]
theorem fd_X9 : ∀ j, j < fs_X9.length → defaultValue (tyX9 j) = vp_V fs_X9 j := by
  intro j hj
  have hj : j < 4 := hj
  rcases (show j = 0 ∨ j = 1 ∨ j = 2 ∨ j = 3 by omega) with rfl | rfl | rfl | rfl <;> rfl
theorem fg_X9 (g : zG) : fs_X9.map (zv g) = fs_X9 := rfl
def fs_X1 : List Value := [.null]
theorem fd_X1 : ∀ j, j < fs_X1.length → defaultValue (tyX1 j) = vp_V fs_X1 j := by
  intro j hj
  have hj : j < 1 := hj
  have e : j = 0 := by omega
  subst e
  rfl
theorem fg_X1 (g : zG) : fs_X1.map (zv g) = fs_X1 := rfl
def fs_X5 : List Value := [.null, .null, .int 0, .int 0, .int 0]
theorem fd_X5 : ∀ j, j < fs_X5.length → defaultValue (tyX5 j) = vp_V fs_X5 j := by
  intro j hj
  have hj : j < 5 := hj
  rcases (show j = 0 ∨ j = 1 ∨ j = 2 ∨ j = 3 ∨ j = 4 by omega) with rfl | rfl | rfl | rfl | rfl <;> rfl
theorem fg_X5 (g : zG) : fs_X5.map (zv g) = fs_X5 := rfl
def fs_X3 : List Value := [.null, .null]
theorem fd_X3 : ∀ j, j < fs_X3.length → defaultValue (tyX3 j) = vp_V fs_X3 j := by
  intro j hj
  have hj : j < 2 := hj
  rcases (show j = 0 ∨ j = 1 by omega) with rfl | rfl <;> rfl
theorem fg_X3 (g : zG) : fs_X3.map (zv g) = fs_X3 := rfl
def fs_J4 : List Value := [.null, .int 0, .int 0, .int 0]
theorem fd_J4 : ∀ j, j < fs_J4.length → defaultValue (tyJ4 j) = vp_V fs_J4 j := by
  intro j hj
  have hj : j < 4 := hj
  rcases (show j = 0 ∨ j = 1 ∨ j = 2 ∨ j = 3 by omega) with rfl | rfl | rfl | rfl <;> rfl
theorem fg_J4 (g : zG) : fs_J4.map (zv g) = fs_J4 := rfl
def fs_X10 : List Value := [.null, .null, .int 0, .null, .null, .null, .null, .null, .int 0, .null, .int 0, .int 0, .int 0]
theorem fd_X10 : ∀ j, j < fs_X10.length → defaultValue (tyX10 j) = vp_V fs_X10 j := by
  intro j hj
  have hj : j < 13 := hj
  rcases (show j = 0 ∨ j = 1 ∨ j = 2 ∨ j = 3 ∨ j = 4 ∨ j = 5 ∨ j = 6 ∨ j = 7 ∨ j = 8 ∨ j = 9 ∨ j = 10 ∨ j = 11 ∨ j = 12 by omega) with rfl | rfl | rfl | rfl | rfl | rfl | rfl | rfl | rfl | rfl | rfl | rfl | rfl <;> rfl
theorem fg_X10 (g : zG) : fs_X10.map (zv g) = fs_X10 := rfl
theorem nw_X2_15 : zNew zT RX2 15 9 fs_X7 := ⟨RX7, TX7, tyX7, rfl, by decide, zws_RX7, zT_i 78 (by decide +kernel) (by decide +kernel), zT_i 82 (by decide +kernel) (by decide +kernel), zT_i 30 (by decide +kernel) (by decide +kernel), tyX7_ok, fd_X7⟩
theorem nw_X2_21 : zNew zT RX2 21 10 fs_X8 := ⟨RX8, TX8, tyX8, rfl, by decide, zws_RX8, zT_i 80 (by decide +kernel) (by decide +kernel), zT_i 111 (by decide +kernel) (by decide +kernel), zT_i 31 (by decide +kernel) (by decide +kernel), tyX8_ok, fd_X8⟩
theorem nw_X6_9 : zNew zT RX6 9 5 fs_X2 := ⟨RX2, TX2, tyX2, rfl, by decide, zws_RX2, zT_i 191 (by decide +kernel) (by decide +kernel), zT_i 73 (by decide +kernel) (by decide +kernel), zT_i 29 (by decide +kernel) (by decide +kernel), tyX2_ok, fd_X2⟩
theorem nw_X5_15 : zNew zT RX5 15 6 fs_X3 := ⟨RX3, TX3, tyX3, rfl, by decide, zws_RX3, zT_i 244 (by decide +kernel) (by decide +kernel), zT_i 246 (by decide +kernel) (by decide +kernel), zT_i 36 (by decide +kernel) (by decide +kernel), tyX3_ok, fd_X3⟩
theorem nw_X10_9 : zNew zT RX10 9 5 fs_X2 := ⟨RX2, TX2, tyX2, rfl, by decide, zws_RX2, zT_i 72 (by decide +kernel) (by decide +kernel), zT_i 73 (by decide +kernel) (by decide +kernel), zT_i 29 (by decide +kernel) (by decide +kernel), tyX2_ok, fd_X2⟩
theorem nw_X10_19 : zNew zT RX10 19 8 fs_X6 := ⟨RX6, TX6, tyX6, rfl, by decide, zws_RX6, zT_i 185 (by decide +kernel) (by decide +kernel), zT_i 186 (by decide +kernel) (by decide +kernel), zT_i 32 (by decide +kernel) (by decide +kernel), tyX6_ok, fd_X6⟩
theorem nw_X10_26 : zNew zT RX10 26 11 fs_X9 := ⟨RX9, TX9, tyX9, rfl, by decide, zws_RX9, zT_i 208 (by decide +kernel) (by decide +kernel), zT_i 209 (by decide +kernel) (by decide +kernel), zT_i 33 (by decide +kernel) (by decide +kernel), tyX9_ok, fd_X9⟩
theorem nw_X10_33 : zNew zT RX10 33 4 fs_X1 := ⟨RX1, TX1, tyX1, rfl, by decide, zws_RX1, zT_i 228 (by decide +kernel) (by decide +kernel), zT_i 229 (by decide +kernel) (by decide +kernel), zT_i 34 (by decide +kernel) (by decide +kernel), tyX1_ok, fd_X1⟩
theorem nw_X10_44 : zNew zT RX10 44 7 fs_X5 := ⟨RX5, TX5, tyX5, rfl, by decide, zws_RX5, zT_i 238 (by decide +kernel) (by decide +kernel), zT_i 239 (by decide +kernel) (by decide +kernel), zT_i 35 (by decide +kernel) (by decide +kernel), tyX5_ok, fd_X5⟩
theorem nw_X10_55 : zNew zT RX10 55 1 fs_J4 := ⟨RJ4, TJ4, tyJ4, rfl, by decide, zws_RJ4, zT_i 286 (by decide +kernel) (by decide +kernel), zT_i 287 (by decide +kernel) (by decide +kernel), zT_i 40 (by decide +kernel) (by decide +kernel), tyJ4_ok, fd_J4⟩
theorem nw_L_12 : zNew zT RL 12 12 fs_X10 := ⟨RX10, TX10, tyX10, rfl, by decide, zws_RX10, zT_i 64 (by decide +kernel) (by decide +kernel), zT_i 65 (by decide +kernel) (by decide +kernel), zT_i 28 (by decide +kernel) (by decide +kernel), tyX10_ok, fd_X10⟩
theorem ac_int : Cond.arrayClass .int ∈ zT := zT_i 110 (by decide +kernel) (by decide +kernel)
theorem ac_long : Cond.arrayClass .long ∈ zT := zT_i 264 (by decide +kernel) (by decide +kernel)
theorem ac_boolean : Cond.arrayClass .boolean ∈ zT := zT_i 227 (by decide +kernel) (by decide +kernel)
theorem ac_char : Cond.arrayClass .char ∈ zT := zT_i 265 (by decide +kernel) (by decide +kernel)
theorem ac_byte : Cond.arrayClass .byte ∈ zT := zT_i 318 (by decide +kernel) (by decide +kernel)
theorem cl_X2_15 : Cond.classLink RX2 15 "BeamChart$Light" ∈ zT := zT_i 78 (by decide +kernel) (by decide +kernel)
theorem cl_X2_21 : Cond.classLink RX2 21 "BeamChart$Ship" ∈ zT := zT_i 80 (by decide +kernel) (by decide +kernel)
theorem cl_X6_9 : Cond.classLink RX6 9 "BeamChart$Coast" ∈ zT := zT_i 191 (by decide +kernel) (by decide +kernel)
theorem cl_X5_15 : Cond.classLink RX5 15 "BeamChart$Command" ∈ zT := zT_i 244 (by decide +kernel) (by decide +kernel)
theorem gs_X3_7 : zGs RX3 7 (.ref 8) := ⟨"BeamChart$CommandKind", "WAIT", "LBeamChart$CommandKind;", List.mem_of_getElem? (i := 0) rfl, zT_i 251 (by decide +kernel) (by decide +kernel)⟩
theorem im_yobj : Cond.instanceMethod Lib.objectInit ∈ zT := zT_i 70 (by decide +kernel) (by decide +kernel)
theorem co_yobj : Cond.code Lib.objectInit ⟨#[0xb1]⟩ 1 none ∈ zT := zT_i 71 (by decide +kernel) (by decide +kernel)
theorem ob_X10 : Cond.methodLink RX10 3 Lib.objectInit ∈ zT := zT_i 69 (by decide +kernel) (by decide +kernel)
theorem ob_X2 : Cond.methodLink RX2 3 Lib.objectInit ∈ zT := zT_i 77 (by decide +kernel) (by decide +kernel)
theorem ob_X7 : Cond.methodLink RX7 3 Lib.objectInit ∈ zT := zT_i 86 (by decide +kernel) (by decide +kernel)
theorem ob_X8 : Cond.methodLink RX8 3 Lib.objectInit ∈ zT := zT_i 115 (by decide +kernel) (by decide +kernel)
theorem ob_X6 : Cond.methodLink RX6 3 Lib.objectInit ∈ zT := zT_i 190 (by decide +kernel) (by decide +kernel)
theorem ob_X9 : Cond.methodLink RX9 3 Lib.objectInit ∈ zT := zT_i 213 (by decide +kernel) (by decide +kernel)
theorem ob_X1 : Cond.methodLink RX1 3 Lib.objectInit ∈ zT := zT_i 233 (by decide +kernel) (by decide +kernel)
theorem ob_X5 : Cond.methodLink RX5 3 Lib.objectInit ∈ zT := zT_i 243 (by decide +kernel) (by decide +kernel)
theorem ob_X3 : Cond.methodLink RX3 1 Lib.objectInit ∈ zT := zT_i 250 (by decide +kernel) (by decide +kernel)
theorem ob_J5 : Cond.methodLink RJ5 3 Lib.objectInit ∈ zT := zT_i 294 (by decide +kernel) (by decide +kernel)
