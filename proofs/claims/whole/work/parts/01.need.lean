/-! What every start that meets the premises must have: a class of the name that the printed start lacks (REPORT.md, TRANSLATOR 6). -/
theorem gs_l {x y : Jvm.Cond} {a : Array Value} {s : State} (h : (Jvm.Cond.and x y).before a s = true) : x.before a s = true := by
  rw [Cond.before_and, Bool.and_eq_true] at h
  exact h.1
theorem gs_r {x y : Jvm.Cond} {a : Array Value} {s : State} (h : (Jvm.Cond.and x y).before a s = true) : y.before a s = true := by
  rw [Cond.before_and, Bool.and_eq_true] at h
  exact h.2
theorem gs_no {x y : String} {a : Array Value} {s : State} (h : (Jvm.Cond.not (Jvm.Cond.castable x y)).before a s = true) : s.vm.findClass x ≠ none := by
  intro e
  have k := Cond.holds_not_iff.mp h
  simp only [Cond.value, e] at k
  exact absurd k (by simp)
theorem gs_narrow {a : Array Value} {s : State} (h : narrow_1_2.before a s = true) : s.vm.findClass "[Ljava/lang/StackTraceElement;" ≠ none :=
  gs_no (y := "[B") (gs_l (gs_l (gs_r (gs_r (gs_r (gs_l (gs_r (gs_l (gs_l h)))))))))
theorem gs_pre {tb : Tables} {e : Env} {a : Array Value} {s : State} (h : Pre_1 tb e a s) : s.vm.findClass "[Ljava/lang/StackTraceElement;" ≠ none := by
  have h1 : (Jvm.Cond.and given_1 narrow_1).before a s = true := h
  exact gs_narrow (gs_r (gs_l (gs_r h1)))
