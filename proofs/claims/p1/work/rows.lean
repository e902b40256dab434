section
/-- THE PRINTED WITNESS: no state whose tables lack the array class of StackTraceElement meets the premise: its part 'not castable' of that class is worth nothing there -/
theorem gr_premise {args : Array Value} {s : State} (h : s.vm.findClass "[Ljava/lang/StackTraceElement;" = none) : narrow_1.before args s = true → False := by
  intro hn
  have h1 := flat_of_before _ hn (.not (.castable "[Ljava/lang/StackTraceElement;" "java/lang/String")) (by decide +kernel)
  simp [Cond.before, Cond.holds, Cond.value, h] at h1
end
