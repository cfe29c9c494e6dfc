section
theorem nd_l {a b : Cond} {args : Array Value} {s : State} (h : (Cond.and a b).before args s = true) : a.before args s = true := by
  rw [Cond.before_and, Bool.and_eq_true] at h
  exact h.1
theorem nd_r {a b : Cond} {args : Array Value} {s : State} (h : (Cond.and a b).before args s = true) : b.before args s = true := by
  rw [Cond.before_and, Bool.and_eq_true] at h
  exact h.2
theorem nd_not {c t : String} {args : Array Value} {s : State} (h : (Cond.not (Cond.castable c t)).before args s = true) : s.vm.findClass c ≠ none := by
  intro hn
  simp only [Cond.before, Cond.holds, Cond.value] at h
  simp [hn] at h
theorem nd_needs {args : Array Value} {s : State} (h : narrow_1.before args s = true) : s.vm.findClass "[Ljava/lang/StackTraceElement;" ≠ none :=
  nd_not (c := "[Ljava/lang/StackTraceElement;") (t := "java/lang/String") (nd_r (nd_r (nd_r (nd_l (nd_l (nd_r (nd_l (nd_r (nd_l (nd_l h))))))))))
theorem nd_falls {args : Array Value} {s : State} (h : s.vm.findClass "[Ljava/lang/StackTraceElement;" = none) : narrow_1.before args s = false := by
  cases hb : narrow_1.before args s with
  | false => rfl
  | true => exact absurd h (nd_needs hb)
end
